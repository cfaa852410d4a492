def sX9_word (f_p1 : Nat → Int32) (x2 : Int32) (x3 : Int32) (x4 : Int32) : Option ((Nat → Int32)) :=
  vlet (f_p1 (Int32.toNatClampNeg (nI 0))) fun y1 =>
  vg (vin ((nI 7) + y1) 52) (
  vlet (upd f_p1 (Int32.toNatClampNeg ((nI 7) + y1)) x2) fun u3 =>
  vg (vin ((nI 15) + y1) 52) (
  vlet (upd u3 (Int32.toNatClampNeg ((nI 15) + y1)) x3) fun u5 =>
  vg (vin ((nI 23) + y1) 52) (
  vlet (upd u5 (Int32.toNatClampNeg ((nI 23) + y1)) x4) fun u7 =>
  vlet ((u7 (Int32.toNatClampNeg (nI 0))) + (nI 1)) fun y8 =>
  vlet (upd u7 (Int32.toNatClampNeg (nI 0)) y8) fun u9 =>
  some (u9))))
abbrev rmX9_word : Room := { frames := 0, cells := 0, slots := 0, locals := 0 }
set_option maxHeartbeats 4000000 in
set_option maxRecDepth 100000 in
theorem cX9_word_ct (l : Launch) (D : va_G) (cI : ClassId) (a_p1 : Nat) (f_p1 : Nat → Int32) (x2 : Int32) (x3 : Int32) (x4 : Int32) {z : (Nat → Int32)} (hs : sX9_word f_p1 x2 x3 x4 = some z) : ct l yX9_word (.code yX9_word cX9_word 5 none :: gtb) rmX9_word D cI [.ref a_p1, .int x2, .int x3, .int x4] [aI cI a_p1 52 f_p1] none [aI cI a_p1 52 z] := by
  refine ct_ofV (own := RX9) (by decide +kernel) rfl (Nat.le_of_ble_eq_true rfl) (fun X C hD hR => ?_)
  unfold sX9_word at hs
  show gg cI X 5 0 0 [aI cI a_p1 52 f_p1] [(0, .ref a_p1), (1, .int x2), (2, .int x3), (3, .int x4)] 0 []
  refine g_aload_n (pl := 0) C dX9_word_0 rfl rfl ?_
  refine g_iconst (v := (nI 0)) C dX9_word_1 rfl ?_
  refine g_iald C 0 rfl (vin_ok rfl) dX9_word_2 ?_
  obtain ⟨y1, e_y1, hs⟩ := vlet_ex hs
  refine g_topi e_y1 ?_
  refine g_istore (lv' := [(4, .int y1), (0, .ref a_p1), (1, .int x2), (2, .int x3), (3, .int x4)]) C dX9_word_3 (by decide) rfl ?_
  refine g_aload_n (pl := 1) C dX9_word_5 rfl rfl ?_
  refine g_bipush (v := (nI 7)) C dX9_word_6 rfl ?_
  refine g_iload (pl := 0) C dX9_word_8 rfl ?_
  refine g_iadd C dX9_word_10 ?_
  refine g_iload_n (pl := 2) C dX9_word_11 rfl rfl ?_
  obtain ⟨b2, hs⟩ := vg_ok hs
  obtain ⟨u3, e_u3, hs⟩ := vlet_ex hs
  refine g_iast (ws' := [aI cI a_p1 52 u3]) C 0 rfl (vin_ok b2) (by rw [e_u3]; rfl) dX9_word_12 ?_
  refine g_aload_n (pl := 1) C dX9_word_13 rfl rfl ?_
  refine g_bipush (v := (nI 15)) C dX9_word_14 rfl ?_
  refine g_iload (pl := 0) C dX9_word_16 rfl ?_
  refine g_iadd C dX9_word_18 ?_
  refine g_iload_n (pl := 3) C dX9_word_19 rfl rfl ?_
  obtain ⟨b4, hs⟩ := vg_ok hs
  obtain ⟨u5, e_u5, hs⟩ := vlet_ex hs
  refine g_iast (ws' := [aI cI a_p1 52 u5]) C 0 rfl (vin_ok b4) (by rw [e_u5]; rfl) dX9_word_20 ?_
  refine g_aload_n (pl := 1) C dX9_word_21 rfl rfl ?_
  refine g_bipush (v := (nI 23)) C dX9_word_22 rfl ?_
  refine g_iload (pl := 0) C dX9_word_24 rfl ?_
  refine g_iadd C dX9_word_26 ?_
  refine g_iload_n (pl := 4) C dX9_word_27 rfl rfl ?_
  obtain ⟨b6, hs⟩ := vg_ok hs
  obtain ⟨u7, e_u7, hs⟩ := vlet_ex hs
  refine g_iast (ws' := [aI cI a_p1 52 u7]) C 0 rfl (vin_ok b6) (by rw [e_u7]; rfl) dX9_word_28 ?_
  refine g_aload_n (pl := 1) C dX9_word_29 rfl rfl ?_
  refine g_iconst (v := (nI 0)) C dX9_word_30 rfl ?_
  refine g_dup2 C dX9_word_31 rfl rfl ?_
  refine g_iald C 0 rfl (vin_ok rfl) dX9_word_32 ?_
  refine g_iconst (v := (nI 1)) C dX9_word_33 rfl ?_
  refine g_iadd C dX9_word_34 ?_
  obtain ⟨y8, e_y8, hs⟩ := vlet_ex hs
  refine g_topi e_y8 ?_
  obtain ⟨u9, e_u9, hs⟩ := vlet_ex hs
  refine g_iast (ws' := [aI cI a_p1 52 u9]) C 0 rfl (vin_ok rfl) (by rw [e_u9]; rfl) dX9_word_35 ?_
  cases hs
  exact hR _ _ dX9_word_36
def sX9_actor (f_p1 : Nat → Int32) (x2 : Int32) (x3 : Int32) (x4 : Int32) : Option ((Nat → Int32)) :=
  vlet (f_p1 (Int32.toNatClampNeg (nI 2))) fun y1 =>
  vg (vin ((nI 37) + y1) 52) (
  vlet (upd f_p1 (Int32.toNatClampNeg ((nI 37) + y1)) x2) fun u3 =>
  vg (vin ((nI 42) + y1) 52) (
  vlet (upd u3 (Int32.toNatClampNeg ((nI 42) + y1)) x3) fun u5 =>
  vg (vin ((nI 47) + y1) 52) (
  vlet (upd u5 (Int32.toNatClampNeg ((nI 47) + y1)) x4) fun u7 =>
  vlet ((u7 (Int32.toNatClampNeg (nI 2))) + (nI 1)) fun y8 =>
  vlet (upd u7 (Int32.toNatClampNeg (nI 2)) y8) fun u9 =>
  some (u9))))
abbrev rmX9_actor : Room := { frames := 0, cells := 0, slots := 0, locals := 0 }
set_option maxHeartbeats 4000000 in
set_option maxRecDepth 100000 in
theorem cX9_actor_ct (l : Launch) (D : va_G) (cI : ClassId) (a_p1 : Nat) (f_p1 : Nat → Int32) (x2 : Int32) (x3 : Int32) (x4 : Int32) {z : (Nat → Int32)} (hs : sX9_actor f_p1 x2 x3 x4 = some z) : ct l yX9_actor (.code yX9_actor cX9_actor 5 none :: gtb) rmX9_actor D cI [.ref a_p1, .int x2, .int x3, .int x4] [aI cI a_p1 52 f_p1] none [aI cI a_p1 52 z] := by
  refine ct_ofV (own := RX9) (by decide +kernel) rfl (Nat.le_of_ble_eq_true rfl) (fun X C hD hR => ?_)
  unfold sX9_actor at hs
  show gg cI X 5 0 0 [aI cI a_p1 52 f_p1] [(0, .ref a_p1), (1, .int x2), (2, .int x3), (3, .int x4)] 0 []
  refine g_aload_n (pl := 0) C dX9_actor_0 rfl rfl ?_
  refine g_iconst (v := (nI 2)) C dX9_actor_1 rfl ?_
  refine g_iald C 0 rfl (vin_ok rfl) dX9_actor_2 ?_
  obtain ⟨y1, e_y1, hs⟩ := vlet_ex hs
  refine g_topi e_y1 ?_
  refine g_istore (lv' := [(4, .int y1), (0, .ref a_p1), (1, .int x2), (2, .int x3), (3, .int x4)]) C dX9_actor_3 (by decide) rfl ?_
  refine g_aload_n (pl := 1) C dX9_actor_5 rfl rfl ?_
  refine g_bipush (v := (nI 37)) C dX9_actor_6 rfl ?_
  refine g_iload (pl := 0) C dX9_actor_8 rfl ?_
  refine g_iadd C dX9_actor_10 ?_
  refine g_iload_n (pl := 2) C dX9_actor_11 rfl rfl ?_
  obtain ⟨b2, hs⟩ := vg_ok hs
  obtain ⟨u3, e_u3, hs⟩ := vlet_ex hs
  refine g_iast (ws' := [aI cI a_p1 52 u3]) C 0 rfl (vin_ok b2) (by rw [e_u3]; rfl) dX9_actor_12 ?_
  refine g_aload_n (pl := 1) C dX9_actor_13 rfl rfl ?_
  refine g_bipush (v := (nI 42)) C dX9_actor_14 rfl ?_
  refine g_iload (pl := 0) C dX9_actor_16 rfl ?_
  refine g_iadd C dX9_actor_18 ?_
  refine g_iload_n (pl := 3) C dX9_actor_19 rfl rfl ?_
  obtain ⟨b4, hs⟩ := vg_ok hs
  obtain ⟨u5, e_u5, hs⟩ := vlet_ex hs
  refine g_iast (ws' := [aI cI a_p1 52 u5]) C 0 rfl (vin_ok b4) (by rw [e_u5]; rfl) dX9_actor_20 ?_
  refine g_aload_n (pl := 1) C dX9_actor_21 rfl rfl ?_
  refine g_bipush (v := (nI 47)) C dX9_actor_22 rfl ?_
  refine g_iload (pl := 0) C dX9_actor_24 rfl ?_
  refine g_iadd C dX9_actor_26 ?_
  refine g_iload_n (pl := 4) C dX9_actor_27 rfl rfl ?_
  obtain ⟨b6, hs⟩ := vg_ok hs
  obtain ⟨u7, e_u7, hs⟩ := vlet_ex hs
  refine g_iast (ws' := [aI cI a_p1 52 u7]) C 0 rfl (vin_ok b6) (by rw [e_u7]; rfl) dX9_actor_28 ?_
  refine g_aload_n (pl := 1) C dX9_actor_29 rfl rfl ?_
  refine g_iconst (v := (nI 2)) C dX9_actor_30 rfl ?_
  refine g_dup2 C dX9_actor_31 rfl rfl ?_
  refine g_iald C 0 rfl (vin_ok rfl) dX9_actor_32 ?_
  refine g_iconst (v := (nI 1)) C dX9_actor_33 rfl ?_
  refine g_iadd C dX9_actor_34 ?_
  obtain ⟨y8, e_y8, hs⟩ := vlet_ex hs
  refine g_topi e_y8 ?_
  obtain ⟨u9, e_u9, hs⟩ := vlet_ex hs
  refine g_iast (ws' := [aI cI a_p1 52 u9]) C 0 rfl (vin_ok rfl) (by rw [e_u9]; rfl) dX9_actor_35 ?_
  cases hs
  exact hR _ _ dX9_actor_36
def LX9_begins_23 (f_post : Nat → Int32) : Nat → Int32 → (Nat → Int32) → Option ((Nat → Int32) × Int32 × Int32 × Int32)
  | 0, _, _ => none
  | n + 1, y_1, f_now =>
    vi ((f_post (Int32.toNatClampNeg (nI 2))) ≤ y_1) inferInstance (
      some (f_now, (nI 0), (nI 0), (nI 0))) (
      vg (vin ((nI 42) + y_1) 52) (
      vlet (f_post (Int32.toNatClampNeg ((nI 42) + y_1))) fun y3 =>
      vg (vin ((nI 0) + y_1) 50) (
      vlet (upd f_now (Int32.toNatClampNeg ((nI 0) + y_1)) y3) fun u5 =>
      vg (vin ((nI 47) + y_1) 52) (
      vlet (f_post (Int32.toNatClampNeg ((nI 47) + y_1))) fun y7 =>
      vg (vin ((nI 5) + y_1) 50) (
      vlet (upd u5 (Int32.toNatClampNeg ((nI 5) + y_1)) y7) fun u9 =>
      vlet (y_1 + (nI 1)) fun y10 =>
      LX9_begins_23 f_post n y10 u9)))))
def LX9_begins_2 (f_post : Nat → Int32) : Nat → Int32 → (Nat → Int32) → Option ((Nat → Int32) × Int32 × Int32 × Int32)
  | 0, _, _ => none
  | n + 1, y_1, f_now =>
    vi ((nI 50) ≤ y_1) inferInstance (
      LX9_begins_23 f_post vF (nI 0) f_now) (
      vg (vin y_1 50) (
      vlet (upd f_now (Int32.toNatClampNeg y_1) (nI 0)) fun u13 =>
      vlet (y_1 + (nI 1)) fun y14 =>
      LX9_begins_2 f_post n y14 u13))
def sX9_begins (f_post : Nat → Int32) (f_now : Nat → Int32) (f_undos : Int32) (f_keptMany : Int32) (f_sightMany : Int32) : Option ((Nat → Int32) × Int32 × Int32 × Int32) :=
  LX9_begins_2 f_post vF (nI 0) f_now
abbrev rmX9_begins : Room := { frames := 0, cells := 0, slots := 0, locals := 0 }
set_option maxHeartbeats 4000000 in
set_option maxRecDepth 100000 in
theorem LX9_begins_23_w {cI : ClassId} {X : xT} (C : cx cI X 2 cX9_begins RX9 rmX9_begins) (h : Nat) (a_post : Nat) (a_read : Nat) (a_now : Nat) (a_aside : Nat) (a_past : Nat) (a_kept : Nat) (a_sights : Nat) (a_text : Nat) (a_weights : Nat) (a_tried : Nat) (a_row : Nat) (a_who : Nat) (a_order : Nat) (a_bestOrder : Nat) (a_costs : Nat) (a_taken : Nat) (f_undos : Int32) (f_keptMany : Int32) (f_sightMany : Int32) (f_size : Int32) (f_at : Int32) (f_value : Int32) (f_above : Int64) (f_below : Int64) (f_paid : Int32) (f_post : Nat → Int32) {z : (Nat → Int32) × Int32 × Int32 × Int32} (hR : ∀ (lv : List (Nat × Value)) (pc : Nat), decode cX9_begins pc = .ok (.return_, 1) → gg cI X 2 0 0 [oX9 h a_post a_read a_now a_aside a_past z.2.1 a_kept z.2.2.1 a_sights z.2.2.2 a_text f_size f_at f_value a_weights a_tried f_above f_below f_paid a_row a_who a_order a_bestOrder a_costs a_taken, aI cI a_post 52 f_post, aI cI a_now 50 z.1] lv pc []) : ∀ (n : Nat) (y_1 : Int32) (f_now : Nat → Int32), LX9_begins_23 f_post n y_1 f_now = some z → gg cI X 2 0 0 [oX9 h a_post a_read a_now a_aside a_past f_undos a_kept f_keptMany a_sights f_sightMany a_text f_size f_at f_value a_weights a_tried f_above f_below f_paid a_row a_who a_order a_bestOrder a_costs a_taken, aI cI a_post 52 f_post, aI cI a_now 50 f_now] [(0, .ref h), (1, .int y_1)] 23 [] := by
  intro n
  induction n with
  | zero =>
    intro y_1 f_now hs
    exact nn_ok hs
  | succ n ih =>
    intro y_1 f_now hs
    rw [LX9_begins_23] at hs
    refine g_iload_n (pl := 1) C dX9_begins_23 rfl rfl ?_
    refine g_aload_n (pl := 0) C dX9_begins_24 rfl rfl ?_
    refine g_get C fX9_7 0 rfl rfl dX9_begins_25 ?_
    refine g_iconst (v := (nI 2)) C dX9_begins_28 rfl ?_
    refine g_iald C 1 rfl (vin_ok rfl) dX9_begins_29 ?_
    refine g_icmp_ge (tgt := 73) C dX9_begins_30 (by decide) (fun c1 => ?_) (fun c1 => ?_)
    · replace hs := vi_t hs c1
      refine g_aload_n (pl := 0) C dX9_begins_73 rfl rfl ?_
      refine g_iconst (v := (nI 0)) C dX9_begins_74 rfl ?_
      refine g_putI (ws' := [oX9 h a_post a_read a_now a_aside a_past (nI 0) a_kept f_keptMany a_sights f_sightMany a_text f_size f_at f_value a_weights a_tried f_above f_below f_paid a_row a_who a_order a_bestOrder a_costs a_taken, aI cI a_post 52 f_post, aI cI a_now 50 f_now]) C fX9_68 0 rfl (Nat.le_of_ble_eq_true rfl) rfl dX9_begins_75 ?_
      refine g_aload_n (pl := 0) C dX9_begins_78 rfl rfl ?_
      refine g_iconst (v := (nI 0)) C dX9_begins_79 rfl ?_
      refine g_putI (ws' := [oX9 h a_post a_read a_now a_aside a_past (nI 0) a_kept (nI 0) a_sights f_sightMany a_text f_size f_at f_value a_weights a_tried f_above f_below f_paid a_row a_who a_order a_bestOrder a_costs a_taken, aI cI a_post 52 f_post, aI cI a_now 50 f_now]) C fX9_72 0 rfl (Nat.le_of_ble_eq_true rfl) rfl dX9_begins_80 ?_
      refine g_aload_n (pl := 0) C dX9_begins_83 rfl rfl ?_
      refine g_iconst (v := (nI 0)) C dX9_begins_84 rfl ?_
      refine g_putI (ws' := [oX9 h a_post a_read a_now a_aside a_past (nI 0) a_kept (nI 0) a_sights (nI 0) a_text f_size f_at f_value a_weights a_tried f_above f_below f_paid a_row a_who a_order a_bestOrder a_costs a_taken, aI cI a_post 52 f_post, aI cI a_now 50 f_now]) C fX9_75 0 rfl (Nat.le_of_ble_eq_true rfl) rfl dX9_begins_85 ?_
      cases hs
      exact hR _ _ dX9_begins_88
    · replace hs := vi_f hs c1
      refine g_aload_n (pl := 0) C dX9_begins_33 rfl rfl ?_
      refine g_get C fX9_16 0 rfl rfl dX9_begins_34 ?_
      refine g_iconst (v := (nI 0)) C dX9_begins_37 rfl ?_
      refine g_iload_n (pl := 1) C dX9_begins_38 rfl rfl ?_
      refine g_iadd C dX9_begins_39 ?_
      refine g_aload_n (pl := 0) C dX9_begins_40 rfl rfl ?_
      refine g_get C fX9_7 0 rfl rfl dX9_begins_41 ?_
      refine g_bipush (v := (nI 42)) C dX9_begins_44 rfl ?_
      refine g_iload_n (pl := 1) C dX9_begins_46 rfl rfl ?_
      refine g_iadd C dX9_begins_47 ?_
      obtain ⟨b2, hs⟩ := vg_ok hs
      refine g_iald C 1 rfl (vin_ok b2) dX9_begins_48 ?_
      obtain ⟨y3, e_y3, hs⟩ := vlet_ex hs
      refine g_topi e_y3 ?_
      obtain ⟨b4, hs⟩ := vg_ok hs
      obtain ⟨u5, e_u5, hs⟩ := vlet_ex hs
      refine g_iast (ws' := [oX9 h a_post a_read a_now a_aside a_past f_undos a_kept f_keptMany a_sights f_sightMany a_text f_size f_at f_value a_weights a_tried f_above f_below f_paid a_row a_who a_order a_bestOrder a_costs a_taken, aI cI a_post 52 f_post, aI cI a_now 50 u5]) C 2 rfl (vin_ok b4) (by rw [e_u5]; rfl) dX9_begins_49 ?_
      refine g_aload_n (pl := 0) C dX9_begins_50 rfl rfl ?_
      refine g_get C fX9_16 0 rfl rfl dX9_begins_51 ?_
      refine g_iconst (v := (nI 5)) C dX9_begins_54 rfl ?_
      refine g_iload_n (pl := 1) C dX9_begins_55 rfl rfl ?_
      refine g_iadd C dX9_begins_56 ?_
      refine g_aload_n (pl := 0) C dX9_begins_57 rfl rfl ?_
      refine g_get C fX9_7 0 rfl rfl dX9_begins_58 ?_
      refine g_bipush (v := (nI 47)) C dX9_begins_61 rfl ?_
      refine g_iload_n (pl := 1) C dX9_begins_63 rfl rfl ?_
      refine g_iadd C dX9_begins_64 ?_
      obtain ⟨b6, hs⟩ := vg_ok hs
      refine g_iald C 1 rfl (vin_ok b6) dX9_begins_65 ?_
      obtain ⟨y7, e_y7, hs⟩ := vlet_ex hs
      refine g_topi e_y7 ?_
      obtain ⟨b8, hs⟩ := vg_ok hs
      obtain ⟨u9, e_u9, hs⟩ := vlet_ex hs
      refine g_iast (ws' := [oX9 h a_post a_read a_now a_aside a_past f_undos a_kept f_keptMany a_sights f_sightMany a_text f_size f_at f_value a_weights a_tried f_above f_below f_paid a_row a_who a_order a_bestOrder a_costs a_taken, aI cI a_post 52 f_post, aI cI a_now 50 u9]) C 2 rfl (vin_ok b8) (by rw [e_u9]; rfl) dX9_begins_66 ?_
      obtain ⟨y10, e_y10, hs⟩ := vlet_ex hs
      refine g_iinc (pl := 1) (lv' := [(1, .int y10), (0, .ref h)]) C dX9_begins_67 rfl e_y10.symm (by decide) rfl ?_
      refine g_goto (tgt := 23) C dX9_begins_70 (by decide) ?_
      refine g_sub [1, 0] rfl ?_
      exact ih y10 u9 hs
set_option maxHeartbeats 4000000 in
set_option maxRecDepth 100000 in
theorem LX9_begins_2_w {cI : ClassId} {X : xT} (C : cx cI X 2 cX9_begins RX9 rmX9_begins) (h : Nat) (a_post : Nat) (a_read : Nat) (a_now : Nat) (a_aside : Nat) (a_past : Nat) (a_kept : Nat) (a_sights : Nat) (a_text : Nat) (a_weights : Nat) (a_tried : Nat) (a_row : Nat) (a_who : Nat) (a_order : Nat) (a_bestOrder : Nat) (a_costs : Nat) (a_taken : Nat) (f_undos : Int32) (f_keptMany : Int32) (f_sightMany : Int32) (f_size : Int32) (f_at : Int32) (f_value : Int32) (f_above : Int64) (f_below : Int64) (f_paid : Int32) (f_post : Nat → Int32) {z : (Nat → Int32) × Int32 × Int32 × Int32} (hR : ∀ (lv : List (Nat × Value)) (pc : Nat), decode cX9_begins pc = .ok (.return_, 1) → gg cI X 2 0 0 [oX9 h a_post a_read a_now a_aside a_past z.2.1 a_kept z.2.2.1 a_sights z.2.2.2 a_text f_size f_at f_value a_weights a_tried f_above f_below f_paid a_row a_who a_order a_bestOrder a_costs a_taken, aI cI a_post 52 f_post, aI cI a_now 50 z.1] lv pc []) : ∀ (n : Nat) (y_1 : Int32) (f_now : Nat → Int32), LX9_begins_2 f_post n y_1 f_now = some z → gg cI X 2 0 0 [oX9 h a_post a_read a_now a_aside a_past f_undos a_kept f_keptMany a_sights f_sightMany a_text f_size f_at f_value a_weights a_tried f_above f_below f_paid a_row a_who a_order a_bestOrder a_costs a_taken, aI cI a_post 52 f_post, aI cI a_now 50 f_now] [(0, .ref h), (1, .int y_1)] 2 [] := by
  intro n
  induction n with
  | zero =>
    intro y_1 f_now hs
    exact nn_ok hs
  | succ n ih =>
    intro y_1 f_now hs
    rw [LX9_begins_2] at hs
    refine g_iload_n (pl := 1) C dX9_begins_2 rfl rfl ?_
    refine g_bipush (v := (nI 50)) C dX9_begins_3 rfl ?_
    refine g_icmp_ge (tgt := 21) C dX9_begins_5 (by decide) (fun c11 => ?_) (fun c11 => ?_)
    · replace hs := vi_t hs c11
      refine g_iconst (v := (nI 0)) C dX9_begins_21 rfl ?_
      refine g_istore_n (lv' := [(1, .int (nI 0)), (0, .ref h)]) C dX9_begins_22 rfl (by decide) rfl ?_
      refine g_sub [1, 0] rfl ?_
      exact LX9_begins_23_w C h a_post a_read a_now a_aside a_past a_kept a_sights a_text a_weights a_tried a_row a_who a_order a_bestOrder a_costs a_taken f_undos f_keptMany f_sightMany f_size f_at f_value f_above f_below f_paid f_post hR _ (nI 0) f_now hs
    · replace hs := vi_f hs c11
      refine g_aload_n (pl := 0) C dX9_begins_8 rfl rfl ?_
      refine g_get C fX9_16 0 rfl rfl dX9_begins_9 ?_
      refine g_iload_n (pl := 1) C dX9_begins_12 rfl rfl ?_
      refine g_iconst (v := (nI 0)) C dX9_begins_13 rfl ?_
      obtain ⟨b12, hs⟩ := vg_ok hs
      obtain ⟨u13, e_u13, hs⟩ := vlet_ex hs
      refine g_iast (ws' := [oX9 h a_post a_read a_now a_aside a_past f_undos a_kept f_keptMany a_sights f_sightMany a_text f_size f_at f_value a_weights a_tried f_above f_below f_paid a_row a_who a_order a_bestOrder a_costs a_taken, aI cI a_post 52 f_post, aI cI a_now 50 u13]) C 2 rfl (vin_ok b12) (by rw [e_u13]; rfl) dX9_begins_14 ?_
      obtain ⟨y14, e_y14, hs⟩ := vlet_ex hs
      refine g_iinc (pl := 1) (lv' := [(1, .int y14), (0, .ref h)]) C dX9_begins_15 rfl e_y14.symm (by decide) rfl ?_
      refine g_goto (tgt := 2) C dX9_begins_18 (by decide) ?_
      refine g_sub [1, 0] rfl ?_
      exact ih y14 u13 hs
set_option maxHeartbeats 4000000 in
set_option maxRecDepth 100000 in
theorem cX9_begins_ct (l : Launch) (D : va_G) (cI : ClassId) (h : Nat) (a_post : Nat) (a_read : Nat) (a_now : Nat) (a_aside : Nat) (a_past : Nat) (a_kept : Nat) (a_sights : Nat) (a_text : Nat) (a_weights : Nat) (a_tried : Nat) (a_row : Nat) (a_who : Nat) (a_order : Nat) (a_bestOrder : Nat) (a_costs : Nat) (a_taken : Nat) (f_undos : Int32) (f_keptMany : Int32) (f_sightMany : Int32) (f_size : Int32) (f_at : Int32) (f_value : Int32) (f_above : Int64) (f_below : Int64) (f_paid : Int32) (f_post : Nat → Int32) (f_now : Nat → Int32) {z : (Nat → Int32) × Int32 × Int32 × Int32} (hs : sX9_begins f_post f_now f_undos f_keptMany f_sightMany = some z) : ct l yX9_begins (.code yX9_begins cX9_begins 2 none :: gtb) rmX9_begins D cI [.ref h] [oX9 h a_post a_read a_now a_aside a_past f_undos a_kept f_keptMany a_sights f_sightMany a_text f_size f_at f_value a_weights a_tried f_above f_below f_paid a_row a_who a_order a_bestOrder a_costs a_taken, aI cI a_post 52 f_post, aI cI a_now 50 f_now] none [oX9 h a_post a_read a_now a_aside a_past z.2.1 a_kept z.2.2.1 a_sights z.2.2.2 a_text f_size f_at f_value a_weights a_tried f_above f_below f_paid a_row a_who a_order a_bestOrder a_costs a_taken, aI cI a_post 52 f_post, aI cI a_now 50 z.1] := by
  refine ct_ofV (own := RX9) (by decide +kernel) rfl (Nat.le_of_ble_eq_true rfl) (fun X C hD hR => ?_)
  unfold sX9_begins at hs
  show gg cI X 2 0 0 [oX9 h a_post a_read a_now a_aside a_past f_undos a_kept f_keptMany a_sights f_sightMany a_text f_size f_at f_value a_weights a_tried f_above f_below f_paid a_row a_who a_order a_bestOrder a_costs a_taken, aI cI a_post 52 f_post, aI cI a_now 50 f_now] [(0, .ref h)] 0 []
  refine g_iconst (v := (nI 0)) C dX9_begins_0 rfl ?_
  refine g_istore_n (lv' := [(1, .int (nI 0)), (0, .ref h)]) C dX9_begins_1 rfl (by decide) rfl ?_
  refine g_sub [1, 0] rfl ?_
  exact LX9_begins_2_w C h a_post a_read a_now a_aside a_past a_kept a_sights a_text a_weights a_tried a_row a_who a_order a_bestOrder a_costs a_taken f_undos f_keptMany f_sightMany f_size f_at f_value f_above f_below f_paid f_post hR _ (nI 0) f_now hs
def sX9_in (x1 : Int64) (x2 : Int64) (x3 : Int64) : Option (Int32) :=
  vi ((lg_cmp x1 x2) < 0) inferInstance (
    some ((nI 0))) (
    vi (0 < (lg_cmp x1 x3)) inferInstance (
      some ((nI 0))) (
      some ((nI 1))))
abbrev rmX9_in : Room := { frames := 0, cells := 0, slots := 0, locals := 0 }
set_option maxHeartbeats 4000000 in
set_option maxRecDepth 100000 in
theorem cX9_in_ct (l : Launch) (D : va_G) (cI : ClassId) (x1 : Int64) (x2 : Int64) (x3 : Int64) {z : Int32} (hs : sX9_in x1 x2 x3 = some z) : ct l yX9_in (.code yX9_in cX9_in 6 (some .boolean) :: gtb) rmX9_in D cI [.long x1, .long x2, .long x3] [] (some (.int z)) [] := by
  refine ct_ofZ (own := RX9) (by decide +kernel) rfl (Nat.le_of_ble_eq_true rfl) (fun X C hD hR => ?_)
  unfold sX9_in at hs
  show gg cI X 6 0 0 [] [(0, .long x1), (2, .long x2), (4, .long x3)] 0 []
  refine g_lload_n (pl := 0) C dX9_in_0 rfl rfl ?_
  refine g_lload_n (pl := 1) C dX9_in_1 rfl rfl ?_
  refine g_lcmp C dX9_in_2 ?_
  refine g_if_lt (tgt := 17) C dX9_in_3 (by decide) (fun c1 => ?_) (fun c1 => ?_)
  · replace hs := vi_t hs c1
    refine g_iconst (v := (nI 0)) C dX9_in_17 rfl ?_
    cases hs
    exact hR _ _ (Or.inl rfl) dX9_in_18
  · replace hs := vi_f hs c1
    refine g_lload_n (pl := 0) C dX9_in_6 rfl rfl ?_
    refine g_lload (pl := 2) C dX9_in_7 rfl ?_
    refine g_lcmp C dX9_in_9 ?_
    refine g_if_gt (tgt := 17) C dX9_in_10 (by decide) (fun c2 => ?_) (fun c2 => ?_)
    · replace hs := vi_t hs c2
      refine g_iconst (v := (nI 0)) C dX9_in_17 rfl ?_
      cases hs
      exact hR _ _ (Or.inl rfl) dX9_in_18
    · replace hs := vi_f hs c2
      refine g_iconst (v := (nI 1)) C dX9_in_13 rfl ?_
      refine g_goto (tgt := 18) C dX9_in_14 (by decide) ?_
      cases hs
      exact hR _ _ (Or.inr rfl) dX9_in_18
def sX9_has (x1 : Int32) (x2 : Int32) : Option (Int32) :=
  vi (((x1 >>> (x2 &&& 31)) &&& (nI 1)) = (nI 1)) inferInstance (
    some ((nI 1))) (
    some ((nI 0)))
abbrev rmX9_has : Room := { frames := 0, cells := 0, slots := 0, locals := 0 }
set_option maxHeartbeats 4000000 in
set_option maxRecDepth 100000 in
theorem cX9_has_ct (l : Launch) (D : va_G) (cI : ClassId) (x1 : Int32) (x2 : Int32) {z : Int32} (hs : sX9_has x1 x2 = some z) : ct l yX9_has (.code yX9_has cX9_has 2 (some .boolean) :: gtb) rmX9_has D cI [.int x1, .int x2] [] (some (.int z)) [] := by
  refine ct_ofZ (own := RX9) (by decide +kernel) rfl (Nat.le_of_ble_eq_true rfl) (fun X C hD hR => ?_)
  unfold sX9_has at hs
  show gg cI X 2 0 0 [] [(0, .int x1), (1, .int x2)] 0 []
  refine g_iload_n (pl := 0) C dX9_has_0 rfl rfl ?_
  refine g_iload_n (pl := 1) C dX9_has_1 rfl rfl ?_
  refine g_ishr C dX9_has_2 ?_
  refine g_iconst (v := (nI 1)) C dX9_has_3 rfl ?_
  refine g_iand C dX9_has_4 ?_
  refine g_iconst (v := (nI 1)) C dX9_has_5 rfl ?_
  refine g_icmp_ne (tgt := 13) C dX9_has_6 (by decide) (fun c1 => ?_) (fun c1 => ?_)
  · replace hs := vi_f hs c1
    refine g_iconst (v := (nI 0)) C dX9_has_13 rfl ?_
    cases hs
    exact hR _ _ (Or.inl rfl) dX9_has_14
  · replace hs := vi_t hs c1
    refine g_iconst (v := (nI 1)) C dX9_has_9 rfl ?_
    refine g_goto (tgt := 14) C dX9_has_10 (by decide) ?_
    cases hs
    exact hR _ _ (Or.inr rfl) dX9_has_14
def LX9_bits_4 : Nat → Int32 → Int32 → Option (Int32)
  | 0, _, _ => none
  | n + 1, y_1, y_2 =>
    vi (y_2 = 0) inferInstance (
      some (y_1)) (
      vlet (y_1 + (nI 1)) fun y2 =>
      vlet (y_2 &&& (y_2 - (nI 1))) fun y3 =>
      LX9_bits_4 n y2 y3)
def sX9_bits (x1 : Int32) : Option (Int32) :=
  LX9_bits_4 vF (nI 0) x1
abbrev rmX9_bits : Room := { frames := 0, cells := 0, slots := 0, locals := 0 }
set_option maxHeartbeats 4000000 in
set_option maxRecDepth 100000 in
theorem LX9_bits_4_w {cI : ClassId} {X : xT} (C : cx cI X 3 cX9_bits RX9 rmX9_bits)  {z : Int32} (hR : ∀ (lv : List (Nat × Value)) (pc : Nat), decode cX9_bits pc = .ok (.ireturn, 1) → gg cI X 3 0 0 [] lv pc [.int z]) : ∀ (n : Nat) (y_1 : Int32) (y_2 : Int32), LX9_bits_4 n y_1 y_2 = some z → gg cI X 3 0 0 [] [(1, .int y_1), (2, .int y_2)] 4 [] := by
  intro n
  induction n with
  | zero =>
    intro y_1 y_2 hs
    exact nn_ok hs
  | succ n ih =>
    intro y_1 y_2 hs
    rw [LX9_bits_4] at hs
    refine g_iload_n (pl := 1) C dX9_bits_4 rfl rfl ?_
    refine g_if_eq (tgt := 20) C dX9_bits_5 (by decide) (fun c1 => ?_) (fun c1 => ?_)
    · replace hs := vi_t hs c1
      refine g_iload_n (pl := 0) C dX9_bits_20 rfl rfl ?_
      cases hs
      exact hR _ _ dX9_bits_21
    · replace hs := vi_f hs c1
      obtain ⟨y2, e_y2, hs⟩ := vlet_ex hs
      refine g_iinc (pl := 0) (lv' := [(1, .int y2), (2, .int y_2)]) C dX9_bits_8 rfl e_y2.symm (by decide) rfl ?_
      refine g_iload_n (pl := 1) C dX9_bits_11 rfl rfl ?_
      refine g_iload_n (pl := 1) C dX9_bits_12 rfl rfl ?_
      refine g_iconst (v := (nI 1)) C dX9_bits_13 rfl ?_
      refine g_isub C dX9_bits_14 ?_
      refine g_iand C dX9_bits_15 ?_
      obtain ⟨y3, e_y3, hs⟩ := vlet_ex hs
      refine g_topi e_y3 ?_
      refine g_istore_n (lv' := [(2, .int y3), (1, .int y2)]) C dX9_bits_16 rfl (by decide) rfl ?_
      refine g_goto (tgt := 4) C dX9_bits_17 (by decide) ?_
      refine g_sub [1, 0] rfl ?_
      exact ih y2 y3 hs
set_option maxHeartbeats 4000000 in
set_option maxRecDepth 100000 in
theorem cX9_bits_ct (l : Launch) (D : va_G) (cI : ClassId) (x1 : Int32) {z : Int32} (hs : sX9_bits x1 = some z) : ct l yX9_bits (.code yX9_bits cX9_bits 3 (some .int) :: gtb) rmX9_bits D cI [.int x1] [] (some (.int z)) [] := by
  refine ct_ofI (own := RX9) (by decide +kernel) rfl (Nat.le_of_ble_eq_true rfl) (fun X C hD hR => ?_)
  unfold sX9_bits at hs
  show gg cI X 3 0 0 [] [(0, .int x1)] 0 []
  refine g_iconst (v := (nI 0)) C dX9_bits_0 rfl ?_
  refine g_istore_n (lv' := [(1, .int (nI 0)), (0, .int x1)]) C dX9_bits_1 rfl (by decide) rfl ?_
  refine g_iload_n (pl := 1) C dX9_bits_2 rfl rfl ?_
  refine g_istore_n (lv' := [(2, .int x1), (1, .int (nI 0)), (0, .int x1)]) C dX9_bits_3 rfl (by decide) rfl ?_
  refine g_sub [1, 0] rfl ?_
  exact LX9_bits_4_w C hR _ (nI 0) x1 hs
def LX9_copies_3 (y_1 : Int32) (y_3 : Int32) (y_4 : Int32) (f_p1 : Nat → Int32) (n_p1 : Nat) (n_p3 : Nat) : Nat → Int32 → (Nat → Int32) → Option ((Nat → Int32))
  | 0, _, _ => none
  | n + 1, y_5, f_p3 =>
    vi (y_4 ≤ y_5) inferInstance (
      some (f_p3)) (
      vg (vin (y_1 + y_5) n_p1) (
      vlet (f_p1 (Int32.toNatClampNeg (y_1 + y_5))) fun y3 =>
      vg (vin (y_3 + y_5) n_p3) (
      vlet (upd f_p3 (Int32.toNatClampNeg (y_3 + y_5)) y3) fun u5 =>
      vlet (y_5 + (nI 1)) fun y6 =>
      LX9_copies_3 y_1 y_3 y_4 f_p1 n_p1 n_p3 n y6 u5)))
def sX9_copies (n_p1 : Nat) (n_p3 : Nat) (f_p1 : Nat → Int32) (f_p3 : Nat → Int32) (x2 : Int32) (x4 : Int32) (x5 : Int32) : Option ((Nat → Int32)) :=
  LX9_copies_3 x2 x4 x5 f_p1 n_p1 n_p3 vF (nI 0) f_p3
abbrev rmX9_copies : Room := { frames := 0, cells := 0, slots := 0, locals := 0 }
set_option maxHeartbeats 4000000 in
set_option maxRecDepth 100000 in
theorem LX9_copies_3_w {cI : ClassId} {X : xT} (C : cx cI X 6 cX9_copies RX9 rmX9_copies) (a_p1 : Nat) (a_p3 : Nat) (n_p1 : Nat) (n_p3 : Nat) (f_p1 : Nat → Int32) (y_1 : Int32) (y_3 : Int32) (y_4 : Int32) {z : (Nat → Int32)} (hR : ∀ (lv : List (Nat × Value)) (pc : Nat), decode cX9_copies pc = .ok (.return_, 1) → gg cI X 6 0 0 [aI cI a_p1 n_p1 f_p1, aI cI a_p3 n_p3 z] lv pc []) : ∀ (n : Nat) (y_5 : Int32) (f_p3 : Nat → Int32), LX9_copies_3 y_1 y_3 y_4 f_p1 n_p1 n_p3 n y_5 f_p3 = some z → gg cI X 6 0 0 [aI cI a_p1 n_p1 f_p1, aI cI a_p3 n_p3 f_p3] [(0, .ref a_p1), (1, .int y_1), (2, .ref a_p3), (3, .int y_3), (4, .int y_4), (5, .int y_5)] 3 [] := by
  intro n
  induction n with
  | zero =>
    intro y_5 f_p3 hs
    exact nn_ok hs
  | succ n ih =>
    intro y_5 f_p3 hs
    rw [LX9_copies_3] at hs
    refine g_iload (pl := 5) C dX9_copies_3 rfl ?_
    refine g_iload (pl := 4) C dX9_copies_5 rfl ?_
    refine g_icmp_ge (tgt := 28) C dX9_copies_7 (by decide) (fun c1 => ?_) (fun c1 => ?_)
    · replace hs := vi_t hs c1
      cases hs
      exact hR _ _ dX9_copies_28
    · replace hs := vi_f hs c1
      refine g_aload_n (pl := 2) C dX9_copies_10 rfl rfl ?_
      refine g_iload_n (pl := 3) C dX9_copies_11 rfl rfl ?_
      refine g_iload (pl := 5) C dX9_copies_12 rfl ?_
      refine g_iadd C dX9_copies_14 ?_
      refine g_aload_n (pl := 0) C dX9_copies_15 rfl rfl ?_
      refine g_iload_n (pl := 1) C dX9_copies_16 rfl rfl ?_
      refine g_iload (pl := 5) C dX9_copies_17 rfl ?_
      refine g_iadd C dX9_copies_19 ?_
      obtain ⟨b2, hs⟩ := vg_ok hs
      refine g_iald C 0 rfl (vin_ok b2) dX9_copies_20 ?_
      obtain ⟨y3, e_y3, hs⟩ := vlet_ex hs
      refine g_topi e_y3 ?_
      obtain ⟨b4, hs⟩ := vg_ok hs
      obtain ⟨u5, e_u5, hs⟩ := vlet_ex hs
      refine g_iast (ws' := [aI cI a_p1 n_p1 f_p1, aI cI a_p3 n_p3 u5]) C 1 rfl (vin_ok b4) (by rw [e_u5]; rfl) dX9_copies_21 ?_
      obtain ⟨y6, e_y6, hs⟩ := vlet_ex hs
      refine g_iinc (pl := 5) (lv' := [(5, .int y6), (0, .ref a_p1), (1, .int y_1), (2, .ref a_p3), (3, .int y_3), (4, .int y_4)]) C dX9_copies_22 rfl e_y6.symm (by decide) rfl ?_
      refine g_goto (tgt := 3) C dX9_copies_25 (by decide) ?_
      refine g_sub [1, 2, 3, 4, 5, 0] rfl ?_
      exact ih y6 u5 hs
set_option maxHeartbeats 4000000 in
set_option maxRecDepth 100000 in
theorem cX9_copies_ct (l : Launch) (D : va_G) (cI : ClassId) (a_p1 : Nat) (a_p3 : Nat) (n_p1 : Nat) (n_p3 : Nat) (f_p1 : Nat → Int32) (f_p3 : Nat → Int32) (x2 : Int32) (x4 : Int32) (x5 : Int32) {z : (Nat → Int32)} (hs : sX9_copies n_p1 n_p3 f_p1 f_p3 x2 x4 x5 = some z) : ct l yX9_copies (.code yX9_copies cX9_copies 6 none :: gtb) rmX9_copies D cI [.ref a_p1, .int x2, .ref a_p3, .int x4, .int x5] [aI cI a_p1 n_p1 f_p1, aI cI a_p3 n_p3 f_p3] none [aI cI a_p1 n_p1 f_p1, aI cI a_p3 n_p3 z] := by
  refine ct_ofV (own := RX9) (by decide +kernel) rfl (Nat.le_of_ble_eq_true rfl) (fun X C hD hR => ?_)
  unfold sX9_copies at hs
  show gg cI X 6 0 0 [aI cI a_p1 n_p1 f_p1, aI cI a_p3 n_p3 f_p3] [(0, .ref a_p1), (1, .int x2), (2, .ref a_p3), (3, .int x4), (4, .int x5)] 0 []
  refine g_iconst (v := (nI 0)) C dX9_copies_0 rfl ?_
  refine g_istore (lv' := [(5, .int (nI 0)), (0, .ref a_p1), (1, .int x2), (2, .ref a_p3), (3, .int x4), (4, .int x5)]) C dX9_copies_1 (by decide) rfl ?_
  refine g_sub [1, 2, 3, 4, 5, 0] rfl ?_
  exact LX9_copies_3_w C a_p1 a_p3 n_p1 n_p3 f_p1 x2 x4 x5 hR _ (nI 0) f_p3 hs
def sX9_write (f_text : Nat → Int32) (f_size : Int32) (x1 : Int32) : Option (Int32 × (Nat → Int32) × Int32) :=
  vb (sX9_in (Int32.toInt64 x1) (lN 32) (lN 126)) fun z1 =>
  vi (z1 = 0) inferInstance (
    some ((-1), f_text, f_size)) (
    vi (f_size = (nI 200)) inferInstance (
      some ((-3), f_text, f_size)) (
      vg (vin f_size 200) (
      vlet (upd f_text (Int32.toNatClampNeg f_size) x1) fun u5 =>
      vlet (f_size + (nI 1)) fun y6 =>
      some (y6, u5, y6))))
abbrev rmX9_write : Room := { frames := 1, cells := 0, slots := 0, locals := 25 }
set_option maxHeartbeats 4000000 in
set_option maxRecDepth 100000 in
theorem cX9_write_ct (l : Launch) (D : va_G) (cI : ClassId) (h : Nat) (a_post : Nat) (a_read : Nat) (a_now : Nat) (a_aside : Nat) (a_past : Nat) (a_kept : Nat) (a_sights : Nat) (a_text : Nat) (a_weights : Nat) (a_tried : Nat) (a_row : Nat) (a_who : Nat) (a_order : Nat) (a_bestOrder : Nat) (a_costs : Nat) (a_taken : Nat) (f_undos : Int32) (f_keptMany : Int32) (f_sightMany : Int32) (f_size : Int32) (f_at : Int32) (f_value : Int32) (f_above : Int64) (f_below : Int64) (f_paid : Int32) (f_text : Nat → Int32) (x1 : Int32) {z : Int32 × (Nat → Int32) × Int32} (hs : sX9_write f_text f_size x1 = some z) : ct l yX9_write (.code yX9_write cX9_write 2 (some .int) :: gtb) rmX9_write D cI [.ref h, .int x1] [oX9 h a_post a_read a_now a_aside a_past f_undos a_kept f_keptMany a_sights f_sightMany a_text f_size f_at f_value a_weights a_tried f_above f_below f_paid a_row a_who a_order a_bestOrder a_costs a_taken, aI cI a_text 200 f_text] (some (.int z.1)) [oX9 h a_post a_read a_now a_aside a_past f_undos a_kept f_keptMany a_sights f_sightMany a_text z.2.2 f_at f_value a_weights a_tried f_above f_below f_paid a_row a_who a_order a_bestOrder a_costs a_taken, aI cI a_text 200 z.2.1] := by
  refine ct_ofI (own := RX9) (by decide +kernel) rfl (Nat.le_of_ble_eq_true rfl) (fun X C hD hR => ?_)
  unfold sX9_write at hs
  show gg cI X 2 0 0 [oX9 h a_post a_read a_now a_aside a_past f_undos a_kept f_keptMany a_sights f_sightMany a_text f_size f_at f_value a_weights a_tried f_above f_below f_paid a_row a_who a_order a_bestOrder a_costs a_taken, aI cI a_text 200 f_text] [(0, .ref h), (1, .int x1)] 0 []
  refine g_iload_n (pl := 1) C dX9_write_0 rfl rfl ?_
  refine g_i2l C dX9_write_1 ?_
  refine g_ldc2 (v := (lN 32)) C q4_195 dX9_write_2 ?_
  refine g_ldc2 (v := (lN 126)) C q4_196 dX9_write_5 ?_
  obtain ⟨z1, e_z1, hs⟩ := vb_ok hs
  refine g_callS (ws' := [oX9 h a_post a_read a_now a_aside a_past f_undos a_kept f_keptMany a_sights f_sightMany a_text f_size f_at f_value a_weights a_tried f_above f_below f_paid a_row a_who a_order a_bestOrder a_costs a_taken, aI cI a_text 200 f_text]) (rest := []) (st' := [.int z1]) C mX9_82 q4_199 [.long (Int32.toInt64 x1), .long (lN 32), .long (lN 126)] (fun l D => cX9_in_ct l D cI (Int32.toInt64 x1) (lN 32) (lN 126) e_z1) ⟨⟨rfl, rfl⟩, Nat.le_of_ble_eq_true rfl, Nat.le_of_ble_eq_true rfl⟩ rfl [] rfl rfl rfl rfl rfl (Nat.le_of_ble_eq_true rfl) (Nat.zero_le _) (Nat.zero_le _) rfl dX9_write_8 ?_
  refine g_if_ne (tgt := 16) C dX9_write_11 (by decide) (fun c2 => ?_) (fun c2 => ?_)
  · replace hs := vi_f hs c2
    refine g_aload_n (pl := 0) C dX9_write_16 rfl rfl ?_
    refine g_get C fX9_86 0 rfl rfl dX9_write_17 ?_
    refine g_sipush (v := (nI 200)) C dX9_write_20 rfl ?_
    refine g_icmp_ne (tgt := 29) C dX9_write_23 (by decide) (fun c3 => ?_) (fun c3 => ?_)
    · replace hs := vi_f hs c3
      refine g_aload_n (pl := 0) C dX9_write_29 rfl rfl ?_
      refine g_get C fX9_31 0 rfl rfl dX9_write_30 ?_
      refine g_aload_n (pl := 0) C dX9_write_33 rfl rfl ?_
      refine g_get C fX9_86 0 rfl rfl dX9_write_34 ?_
      refine g_iload_n (pl := 1) C dX9_write_37 rfl rfl ?_
      obtain ⟨b4, hs⟩ := vg_ok hs
      obtain ⟨u5, e_u5, hs⟩ := vlet_ex hs
      refine g_iast (ws' := [oX9 h a_post a_read a_now a_aside a_past f_undos a_kept f_keptMany a_sights f_sightMany a_text f_size f_at f_value a_weights a_tried f_above f_below f_paid a_row a_who a_order a_bestOrder a_costs a_taken, aI cI a_text 200 u5]) C 1 rfl (vin_ok b4) (by rw [e_u5]; rfl) dX9_write_38 ?_
      refine g_aload_n (pl := 0) C dX9_write_39 rfl rfl ?_
      refine g_dup C dX9_write_40 rfl ?_
      refine g_get C fX9_86 0 rfl rfl dX9_write_41 ?_
      refine g_iconst (v := (nI 1)) C dX9_write_44 rfl ?_
      refine g_iadd C dX9_write_45 ?_
      obtain ⟨y6, e_y6, hs⟩ := vlet_ex hs
      refine g_topi e_y6 ?_
      refine g_putI (ws' := [oX9 h a_post a_read a_now a_aside a_past f_undos a_kept f_keptMany a_sights f_sightMany a_text y6 f_at f_value a_weights a_tried f_above f_below f_paid a_row a_who a_order a_bestOrder a_costs a_taken, aI cI a_text 200 u5]) C fX9_86 0 rfl (Nat.le_of_ble_eq_true rfl) rfl dX9_write_46 ?_
      refine g_aload_n (pl := 0) C dX9_write_49 rfl rfl ?_
      refine g_get C fX9_86 0 rfl rfl dX9_write_50 ?_
      cases hs
      exact hR _ _ dX9_write_53
    · replace hs := vi_t hs c3
      refine g_bipush (v := (-3)) C dX9_write_26 rfl ?_
      cases hs
      exact hR _ _ dX9_write_28
  · replace hs := vi_t hs c2
    refine g_iconst (v := (-1)) C dX9_write_14 rfl ?_
    cases hs
    exact hR _ _ dX9_write_15
def sX9_wipe (f_size : Int32) : Option (Int32 × Int32) :=
  some (f_size, (nI 0))
abbrev rmX9_wipe : Room := { frames := 0, cells := 0, slots := 0, locals := 0 }
set_option maxHeartbeats 4000000 in
set_option maxRecDepth 100000 in
theorem cX9_wipe_ct (l : Launch) (D : va_G) (cI : ClassId) (h : Nat) (a_post : Nat) (a_read : Nat) (a_now : Nat) (a_aside : Nat) (a_past : Nat) (a_kept : Nat) (a_sights : Nat) (a_text : Nat) (a_weights : Nat) (a_tried : Nat) (a_row : Nat) (a_who : Nat) (a_order : Nat) (a_bestOrder : Nat) (a_costs : Nat) (a_taken : Nat) (f_undos : Int32) (f_keptMany : Int32) (f_sightMany : Int32) (f_size : Int32) (f_at : Int32) (f_value : Int32) (f_above : Int64) (f_below : Int64) (f_paid : Int32) {z : Int32 × Int32} (hs : sX9_wipe f_size = some z) : ct l yX9_wipe (.code yX9_wipe cX9_wipe 2 (some .int) :: gtb) rmX9_wipe D cI [.ref h] [oX9 h a_post a_read a_now a_aside a_past f_undos a_kept f_keptMany a_sights f_sightMany a_text f_size f_at f_value a_weights a_tried f_above f_below f_paid a_row a_who a_order a_bestOrder a_costs a_taken] (some (.int z.1)) [oX9 h a_post a_read a_now a_aside a_past f_undos a_kept f_keptMany a_sights f_sightMany a_text z.2 f_at f_value a_weights a_tried f_above f_below f_paid a_row a_who a_order a_bestOrder a_costs a_taken] := by
  refine ct_ofI (own := RX9) (by decide +kernel) rfl (Nat.le_of_ble_eq_true rfl) (fun X C hD hR => ?_)
  unfold sX9_wipe at hs
  show gg cI X 2 0 0 [oX9 h a_post a_read a_now a_aside a_past f_undos a_kept f_keptMany a_sights f_sightMany a_text f_size f_at f_value a_weights a_tried f_above f_below f_paid a_row a_who a_order a_bestOrder a_costs a_taken] [(0, .ref h)] 0 []
  refine g_aload_n (pl := 0) C dX9_wipe_0 rfl rfl ?_
  refine g_get C fX9_86 0 rfl rfl dX9_wipe_1 ?_
  refine g_istore_n (lv' := [(1, .int f_size), (0, .ref h)]) C dX9_wipe_4 rfl (by decide) rfl ?_
  refine g_aload_n (pl := 1) C dX9_wipe_5 rfl rfl ?_
  refine g_iconst (v := (nI 0)) C dX9_wipe_6 rfl ?_
  refine g_putI (ws' := [oX9 h a_post a_read a_now a_aside a_past f_undos a_kept f_keptMany a_sights f_sightMany a_text (nI 0) f_at f_value a_weights a_tried f_above f_below f_paid a_row a_who a_order a_bestOrder a_costs a_taken]) C fX9_86 0 rfl (Nat.le_of_ble_eq_true rfl) rfl dX9_wipe_7 ?_
  refine g_iload_n (pl := 0) C dX9_wipe_10 rfl rfl ?_
  cases hs
  exact hR _ _ dX9_wipe_11
def sX9_here (f_text : Nat → Int32) (f_size : Int32) (f_at : Int32) : Option (Int32) :=
  vi (f_size ≤ f_at) inferInstance (
    some ((-1))) (
    vg (vin f_at 200) (
    some (f_text (Int32.toNatClampNeg f_at))))
abbrev rmX9_here : Room := { frames := 0, cells := 0, slots := 0, locals := 0 }
set_option maxHeartbeats 4000000 in
set_option maxRecDepth 100000 in
theorem cX9_here_ct (l : Launch) (D : va_G) (cI : ClassId) (h : Nat) (a_post : Nat) (a_read : Nat) (a_now : Nat) (a_aside : Nat) (a_past : Nat) (a_kept : Nat) (a_sights : Nat) (a_text : Nat) (a_weights : Nat) (a_tried : Nat) (a_row : Nat) (a_who : Nat) (a_order : Nat) (a_bestOrder : Nat) (a_costs : Nat) (a_taken : Nat) (f_undos : Int32) (f_keptMany : Int32) (f_sightMany : Int32) (f_size : Int32) (f_at : Int32) (f_value : Int32) (f_above : Int64) (f_below : Int64) (f_paid : Int32) (f_text : Nat → Int32) {z : Int32} (hs : sX9_here f_text f_size f_at = some z) : ct l yX9_here (.code yX9_here cX9_here 1 (some .int) :: gtb) rmX9_here D cI [.ref h] [oX9 h a_post a_read a_now a_aside a_past f_undos a_kept f_keptMany a_sights f_sightMany a_text f_size f_at f_value a_weights a_tried f_above f_below f_paid a_row a_who a_order a_bestOrder a_costs a_taken, aI cI a_text 200 f_text] (some (.int z)) [oX9 h a_post a_read a_now a_aside a_past f_undos a_kept f_keptMany a_sights f_sightMany a_text f_size f_at f_value a_weights a_tried f_above f_below f_paid a_row a_who a_order a_bestOrder a_costs a_taken, aI cI a_text 200 f_text] := by
  refine ct_ofI (own := RX9) (by decide +kernel) rfl (Nat.le_of_ble_eq_true rfl) (fun X C hD hR => ?_)
  unfold sX9_here at hs
  show gg cI X 1 0 0 [oX9 h a_post a_read a_now a_aside a_past f_undos a_kept f_keptMany a_sights f_sightMany a_text f_size f_at f_value a_weights a_tried f_above f_below f_paid a_row a_who a_order a_bestOrder a_costs a_taken, aI cI a_text 200 f_text] [(0, .ref h)] 0 []
  refine g_aload_n (pl := 0) C dX9_here_0 rfl rfl ?_
  refine g_get C fX9_89 0 rfl rfl dX9_here_1 ?_
  refine g_aload_n (pl := 0) C dX9_here_4 rfl rfl ?_
  refine g_get C fX9_86 0 rfl rfl dX9_here_5 ?_
  refine g_icmp_ge (tgt := 23) C dX9_here_8 (by decide) (fun c1 => ?_) (fun c1 => ?_)
  · replace hs := vi_t hs c1
    refine g_iconst (v := (-1)) C dX9_here_23 rfl ?_
    cases hs
    exact hR _ _ dX9_here_24
  · replace hs := vi_f hs c1
    refine g_aload_n (pl := 0) C dX9_here_11 rfl rfl ?_
    refine g_get C fX9_31 0 rfl rfl dX9_here_12 ?_
    refine g_aload_n (pl := 0) C dX9_here_15 rfl rfl ?_
    refine g_get C fX9_89 0 rfl rfl dX9_here_16 ?_
    obtain ⟨b2, hs⟩ := vg_ok hs
    refine g_iald C 1 rfl (vin_ok b2) dX9_here_19 ?_
    refine g_goto (tgt := 24) C dX9_here_20 (by decide) ?_
    cases hs
    exact hR _ _ dX9_here_24
def sX9_takes (f_text : Nat → Int32) (f_size : Int32) (f_at : Int32) (x1 : Int32) : Option (Int32 × Int32) :=
  vb (sX9_here f_text f_size f_at) fun z1 =>
  vi (z1 = x1) inferInstance (
    vlet (f_at + (nI 1)) fun y6 =>
    some ((nI 1), y6)) (
    vlet (f_at + (nI 0)) fun y4 =>
    some ((nI 0), y4))
abbrev rmX9_takes : Room := { frames := 1, cells := 0, slots := 0, locals := 20 }
set_option maxHeartbeats 4000000 in
set_option maxRecDepth 100000 in
theorem cX9_takes_ct (l : Launch) (D : va_G) (cI : ClassId) (h : Nat) (a_post : Nat) (a_read : Nat) (a_now : Nat) (a_aside : Nat) (a_past : Nat) (a_kept : Nat) (a_sights : Nat) (a_text : Nat) (a_weights : Nat) (a_tried : Nat) (a_row : Nat) (a_who : Nat) (a_order : Nat) (a_bestOrder : Nat) (a_costs : Nat) (a_taken : Nat) (f_undos : Int32) (f_keptMany : Int32) (f_sightMany : Int32) (f_size : Int32) (f_at : Int32) (f_value : Int32) (f_above : Int64) (f_below : Int64) (f_paid : Int32) (f_text : Nat → Int32) (x1 : Int32) {z : Int32 × Int32} (hs : sX9_takes f_text f_size f_at x1 = some z) : ct l yX9_takes (.code yX9_takes cX9_takes 3 (some .boolean) :: gtb) rmX9_takes D cI [.ref h, .int x1] [oX9 h a_post a_read a_now a_aside a_past f_undos a_kept f_keptMany a_sights f_sightMany a_text f_size f_at f_value a_weights a_tried f_above f_below f_paid a_row a_who a_order a_bestOrder a_costs a_taken, aI cI a_text 200 f_text] (some (.int z.1)) [oX9 h a_post a_read a_now a_aside a_past f_undos a_kept f_keptMany a_sights f_sightMany a_text f_size z.2 f_value a_weights a_tried f_above f_below f_paid a_row a_who a_order a_bestOrder a_costs a_taken, aI cI a_text 200 f_text] := by
  refine ct_ofZ (own := RX9) (by decide +kernel) rfl (Nat.le_of_ble_eq_true rfl) (fun X C hD hR => ?_)
  unfold sX9_takes at hs
  show gg cI X 3 0 0 [oX9 h a_post a_read a_now a_aside a_past f_undos a_kept f_keptMany a_sights f_sightMany a_text f_size f_at f_value a_weights a_tried f_above f_below f_paid a_row a_who a_order a_bestOrder a_costs a_taken, aI cI a_text 200 f_text] [(0, .ref h), (1, .int x1)] 0 []
  refine g_aload_n (pl := 0) C dX9_takes_0 rfl rfl ?_
  obtain ⟨z1, e_z1, hs⟩ := vb_ok hs
  refine g_callV (ws' := [oX9 h a_post a_read a_now a_aside a_past f_undos a_kept f_keptMany a_sights f_sightMany a_text f_size f_at f_value a_weights a_tried f_above f_below f_paid a_row a_who a_order a_bestOrder a_costs a_taken, aI cI a_text 200 f_text]) (rest := []) (st' := [.int z1]) C mX9_92 q4_219 [] (fun l D => cX9_here_ct l D cI h a_post a_read a_now a_aside a_past a_kept a_sights a_text a_weights a_tried a_row a_who a_order a_bestOrder a_costs a_taken f_undos f_keptMany f_sightMany f_size f_at f_value f_above f_below f_paid f_text e_z1) ⟨⟨rfl, rfl⟩, Nat.le_of_ble_eq_true rfl, Nat.le_of_ble_eq_true rfl⟩ 0 rfl rfl rfl [0, 1] rfl rfl rfl rfl rfl (Nat.le_of_ble_eq_true rfl) (Nat.zero_le _) (Nat.zero_le _) rfl dX9_takes_1 ?_
  refine g_iload_n (pl := 1) C dX9_takes_4 rfl rfl ?_
  refine g_icmp_ne (tgt := 12) C dX9_takes_5 (by decide) (fun c2 => ?_) (fun c2 => ?_)
  · replace hs := vi_f hs c2
    refine g_iconst (v := (nI 0)) C dX9_takes_12 rfl ?_
    refine g_istore_n (lv' := [(2, .int (nI 0)), (0, .ref h), (1, .int x1)]) C dX9_takes_13 rfl (by decide) rfl ?_
    refine g_aload_n (pl := 1) C dX9_takes_14 rfl rfl ?_
    refine g_dup C dX9_takes_15 rfl ?_
    refine g_get C fX9_89 0 rfl rfl dX9_takes_16 ?_
    refine g_iload_n (pl := 0) C dX9_takes_19 rfl rfl ?_
    refine g_if_eq (tgt := 27) C dX9_takes_20 (by decide) (fun c3 => ?_) (fun c3 => ?_)
    rotate_left
    · exact absurd c3 (by decide)
    refine g_iconst (v := (nI 0)) C dX9_takes_27 rfl ?_
    refine g_iadd C dX9_takes_28 ?_
    obtain ⟨y4, e_y4, hs⟩ := vlet_ex hs
    refine g_topi e_y4 ?_
    refine g_putI (ws' := [oX9 h a_post a_read a_now a_aside a_past f_undos a_kept f_keptMany a_sights f_sightMany a_text f_size y4 f_value a_weights a_tried f_above f_below f_paid a_row a_who a_order a_bestOrder a_costs a_taken, aI cI a_text 200 f_text]) C fX9_89 0 rfl (Nat.le_of_ble_eq_true rfl) rfl dX9_takes_29 ?_
    refine g_iload_n (pl := 0) C dX9_takes_32 rfl rfl ?_
    cases hs
    exact hR _ _ (Or.inl rfl) dX9_takes_33
  · replace hs := vi_t hs c2
    refine g_iconst (v := (nI 1)) C dX9_takes_8 rfl ?_
    refine g_goto (tgt := 13) C dX9_takes_9 (by decide) ?_
    refine g_istore_n (lv' := [(2, .int (nI 1)), (0, .ref h), (1, .int x1)]) C dX9_takes_13 rfl (by decide) rfl ?_
    refine g_aload_n (pl := 1) C dX9_takes_14 rfl rfl ?_
    refine g_dup C dX9_takes_15 rfl ?_
    refine g_get C fX9_89 0 rfl rfl dX9_takes_16 ?_
    refine g_iload_n (pl := 0) C dX9_takes_19 rfl rfl ?_
    refine g_if_eq (tgt := 27) C dX9_takes_20 (by decide) (fun c5 => ?_) (fun c5 => ?_)
    · exact absurd c5 (by decide)
    refine g_iconst (v := (nI 1)) C dX9_takes_23 rfl ?_
    refine g_goto (tgt := 28) C dX9_takes_24 (by decide) ?_
    refine g_iadd C dX9_takes_28 ?_
    obtain ⟨y6, e_y6, hs⟩ := vlet_ex hs
    refine g_topi e_y6 ?_
    refine g_putI (ws' := [oX9 h a_post a_read a_now a_aside a_past f_undos a_kept f_keptMany a_sights f_sightMany a_text f_size y6 f_value a_weights a_tried f_above f_below f_paid a_row a_who a_order a_bestOrder a_costs a_taken, aI cI a_text 200 f_text]) C fX9_89 0 rfl (Nat.le_of_ble_eq_true rfl) rfl dX9_takes_29 ?_
    refine g_iload_n (pl := 0) C dX9_takes_32 rfl rfl ?_
    cases hs
    exact hR _ _ (Or.inr rfl) dX9_takes_33
def sX9_isFigure (x1 : Int32) : Option (Int32) :=
  vb (sX9_in (Int32.toInt64 x1) (lN 48) (lN 57)) fun z1 =>
  vg (vz z1) (
  some (z1))
abbrev rmX9_isFigure : Room := { frames := 1, cells := 0, slots := 0, locals := 25 }
set_option maxHeartbeats 4000000 in
set_option maxRecDepth 100000 in
theorem cX9_isFigure_ct (l : Launch) (D : va_G) (cI : ClassId) (x1 : Int32) {z : Int32} (hs : sX9_isFigure x1 = some z) : ct l yX9_isFigure (.code yX9_isFigure cX9_isFigure 1 (some .boolean) :: gtb) rmX9_isFigure D cI [.int x1] [] (some (.int z)) [] := by
  refine ct_ofZ (own := RX9) (by decide +kernel) rfl (Nat.le_of_ble_eq_true rfl) (fun X C hD hR => ?_)
  unfold sX9_isFigure at hs
  show gg cI X 1 0 0 [] [(0, .int x1)] 0 []
  refine g_iload_n (pl := 0) C dX9_isFigure_0 rfl rfl ?_
  refine g_i2l C dX9_isFigure_1 ?_
  refine g_ldc2 (v := (lN 48)) C q4_231 dX9_isFigure_2 ?_
  refine g_ldc2 (v := (lN 57)) C q4_232 dX9_isFigure_5 ?_
  obtain ⟨z1, e_z1, hs⟩ := vb_ok hs
  refine g_callS (ws' := []) (rest := []) (st' := [.int z1]) C mX9_82 q4_199 [.long (Int32.toInt64 x1), .long (lN 48), .long (lN 57)] (fun l D => cX9_in_ct l D cI (Int32.toInt64 x1) (lN 48) (lN 57) e_z1) ⟨⟨rfl, rfl⟩, Nat.le_of_ble_eq_true rfl, Nat.le_of_ble_eq_true rfl⟩ rfl [] rfl rfl rfl rfl rfl (Nat.le_of_ble_eq_true rfl) (Nat.zero_le _) (Nat.zero_le _) rfl dX9_isFigure_8 ?_
  obtain ⟨b2, hs⟩ := vg_ok hs
  cases hs
  exact hR _ _ (vz_ok b2) dX9_isFigure_11
def sX9_number (f_text : Nat → Int32) (f_size : Int32) (f_at : Int32) (f_value : Int32) (x1 : Int32) (x2 : Int32) : Option (Int32 × Int32 × Int32) :=
  vb (sX9_here f_text f_size f_at) fun z1 =>
  vb (sX9_isFigure z1) fun z2 =>
  vi (z2 = 0) inferInstance (
    some ((nI 0), f_at, f_value)) (
    vb (sX9_here f_text f_size f_at) fun z4 =>
    vlet (z4 - (nI 48)) fun y5 =>
    vlet (f_at + (nI 1)) fun y6 =>
    vb (sX9_here f_text f_size y6) fun z7 =>
    vb (sX9_isFigure z7) fun z8 =>
    vi (z8 = 0) inferInstance (
      vb (sX9_in (Int32.toInt64 y5) (Int32.toInt64 x1) (Int32.toInt64 x2)) fun z10 =>
      vg (vz z10) (
      some (z10, y6, y5))) (
      vb (sX9_here f_text f_size y6) fun z12 =>
      vlet ((((nI 10) * y5) + z12) - (nI 48)) fun y13 =>
      vlet (y6 + (nI 1)) fun y14 =>
      vb (sX9_in (Int32.toInt64 y13) (Int32.toInt64 x1) (Int32.toInt64 x2)) fun z15 =>
      vg (vz z15) (
      some (z15, y14, y13))))
abbrev rmX9_number : Room := { frames := 2, cells := 0, slots := 0, locals := 45 }
set_option maxHeartbeats 4000000 in
set_option maxRecDepth 100000 in
theorem cX9_number_ct (l : Launch) (D : va_G) (cI : ClassId) (h : Nat) (a_post : Nat) (a_read : Nat) (a_now : Nat) (a_aside : Nat) (a_past : Nat) (a_kept : Nat) (a_sights : Nat) (a_text : Nat) (a_weights : Nat) (a_tried : Nat) (a_row : Nat) (a_who : Nat) (a_order : Nat) (a_bestOrder : Nat) (a_costs : Nat) (a_taken : Nat) (f_undos : Int32) (f_keptMany : Int32) (f_sightMany : Int32) (f_size : Int32) (f_at : Int32) (f_value : Int32) (f_above : Int64) (f_below : Int64) (f_paid : Int32) (f_text : Nat → Int32) (x1 : Int32) (x2 : Int32) {z : Int32 × Int32 × Int32} (hs : sX9_number f_text f_size f_at f_value x1 x2 = some z) : ct l yX9_number (.code yX9_number cX9_number 3 (some .boolean) :: gtb) rmX9_number D cI [.ref h, .int x1, .int x2] [oX9 h a_post a_read a_now a_aside a_past f_undos a_kept f_keptMany a_sights f_sightMany a_text f_size f_at f_value a_weights a_tried f_above f_below f_paid a_row a_who a_order a_bestOrder a_costs a_taken, aI cI a_text 200 f_text] (some (.int z.1)) [oX9 h a_post a_read a_now a_aside a_past f_undos a_kept f_keptMany a_sights f_sightMany a_text f_size z.2.1 z.2.2 a_weights a_tried f_above f_below f_paid a_row a_who a_order a_bestOrder a_costs a_taken, aI cI a_text 200 f_text] := by
  refine ct_ofZ (own := RX9) (by decide +kernel) rfl (Nat.le_of_ble_eq_true rfl) (fun X C hD hR => ?_)
  unfold sX9_number at hs
  show gg cI X 3 0 0 [oX9 h a_post a_read a_now a_aside a_past f_undos a_kept f_keptMany a_sights f_sightMany a_text f_size f_at f_value a_weights a_tried f_above f_below f_paid a_row a_who a_order a_bestOrder a_costs a_taken, aI cI a_text 200 f_text] [(0, .ref h), (1, .int x1), (2, .int x2)] 0 []
  refine g_aload_n (pl := 0) C dX9_number_0 rfl rfl ?_
  obtain ⟨z1, e_z1, hs⟩ := vb_ok hs
  refine g_callV (ws' := [oX9 h a_post a_read a_now a_aside a_past f_undos a_kept f_keptMany a_sights f_sightMany a_text f_size f_at f_value a_weights a_tried f_above f_below f_paid a_row a_who a_order a_bestOrder a_costs a_taken, aI cI a_text 200 f_text]) (rest := []) (st' := [.int z1]) C mX9_92 q4_219 [] (fun l D => cX9_here_ct l D cI h a_post a_read a_now a_aside a_past a_kept a_sights a_text a_weights a_tried a_row a_who a_order a_bestOrder a_costs a_taken f_undos f_keptMany f_sightMany f_size f_at f_value f_above f_below f_paid f_text e_z1) ⟨⟨rfl, rfl⟩, Nat.le_of_ble_eq_true rfl, Nat.le_of_ble_eq_true rfl⟩ 0 rfl rfl rfl [0, 1] rfl rfl rfl rfl rfl (Nat.le_of_ble_eq_true rfl) (Nat.zero_le _) (Nat.zero_le _) rfl dX9_number_1 ?_
  obtain ⟨z2, e_z2, hs⟩ := vb_ok hs
  refine g_callS (ws' := [oX9 h a_post a_read a_now a_aside a_past f_undos a_kept f_keptMany a_sights f_sightMany a_text f_size f_at f_value a_weights a_tried f_above f_below f_paid a_row a_who a_order a_bestOrder a_costs a_taken, aI cI a_text 200 f_text]) (rest := []) (st' := [.int z2]) C mX9_100 q4_230 [.int z1] (fun l D => cX9_isFigure_ct l D cI z1 e_z2) ⟨⟨rfl, rfl⟩, Nat.le_of_ble_eq_true rfl, Nat.le_of_ble_eq_true rfl⟩ rfl [] rfl rfl rfl rfl rfl (Nat.le_of_ble_eq_true rfl) (Nat.zero_le _) (Nat.zero_le _) rfl dX9_number_4 ?_
  refine g_if_ne (tgt := 12) C dX9_number_7 (by decide) (fun c3 => ?_) (fun c3 => ?_)
  · replace hs := vi_f hs c3
    refine g_aload_n (pl := 0) C dX9_number_12 rfl rfl ?_
    refine g_aload_n (pl := 0) C dX9_number_13 rfl rfl ?_
    obtain ⟨z4, e_z4, hs⟩ := vb_ok hs
    refine g_callV (ws' := [oX9 h a_post a_read a_now a_aside a_past f_undos a_kept f_keptMany a_sights f_sightMany a_text f_size f_at f_value a_weights a_tried f_above f_below f_paid a_row a_who a_order a_bestOrder a_costs a_taken, aI cI a_text 200 f_text]) (rest := [.ref h]) (st' := [.int z4, .ref h]) C mX9_92 q4_219 [] (fun l D => cX9_here_ct l D cI h a_post a_read a_now a_aside a_past a_kept a_sights a_text a_weights a_tried a_row a_who a_order a_bestOrder a_costs a_taken f_undos f_keptMany f_sightMany f_size f_at f_value f_above f_below f_paid f_text e_z4) ⟨⟨rfl, rfl⟩, Nat.le_of_ble_eq_true rfl, Nat.le_of_ble_eq_true rfl⟩ 0 rfl rfl rfl [0, 1] rfl rfl rfl rfl rfl (Nat.le_of_ble_eq_true rfl) (Nat.zero_le _) (Nat.zero_le _) rfl dX9_number_14 ?_
    refine g_bipush (v := (nI 48)) C dX9_number_17 rfl ?_
    refine g_isub C dX9_number_19 ?_
    obtain ⟨y5, e_y5, hs⟩ := vlet_ex hs
    refine g_topi e_y5 ?_
    refine g_putI (ws' := [oX9 h a_post a_read a_now a_aside a_past f_undos a_kept f_keptMany a_sights f_sightMany a_text f_size f_at y5 a_weights a_tried f_above f_below f_paid a_row a_who a_order a_bestOrder a_costs a_taken, aI cI a_text 200 f_text]) C fX9_104 0 rfl (Nat.le_of_ble_eq_true rfl) rfl dX9_number_20 ?_
    refine g_aload_n (pl := 0) C dX9_number_23 rfl rfl ?_
    refine g_dup C dX9_number_24 rfl ?_
    refine g_get C fX9_89 0 rfl rfl dX9_number_25 ?_
    refine g_iconst (v := (nI 1)) C dX9_number_28 rfl ?_
    refine g_iadd C dX9_number_29 ?_
    obtain ⟨y6, e_y6, hs⟩ := vlet_ex hs
    refine g_topi e_y6 ?_
    refine g_putI (ws' := [oX9 h a_post a_read a_now a_aside a_past f_undos a_kept f_keptMany a_sights f_sightMany a_text f_size y6 y5 a_weights a_tried f_above f_below f_paid a_row a_who a_order a_bestOrder a_costs a_taken, aI cI a_text 200 f_text]) C fX9_89 0 rfl (Nat.le_of_ble_eq_true rfl) rfl dX9_number_30 ?_
    refine g_aload_n (pl := 0) C dX9_number_33 rfl rfl ?_
    obtain ⟨z7, e_z7, hs⟩ := vb_ok hs
    refine g_callV (ws' := [oX9 h a_post a_read a_now a_aside a_past f_undos a_kept f_keptMany a_sights f_sightMany a_text f_size y6 y5 a_weights a_tried f_above f_below f_paid a_row a_who a_order a_bestOrder a_costs a_taken, aI cI a_text 200 f_text]) (rest := []) (st' := [.int z7]) C mX9_92 q4_219 [] (fun l D => cX9_here_ct l D cI h a_post a_read a_now a_aside a_past a_kept a_sights a_text a_weights a_tried a_row a_who a_order a_bestOrder a_costs a_taken f_undos f_keptMany f_sightMany f_size y6 y5 f_above f_below f_paid f_text e_z7) ⟨⟨rfl, rfl⟩, Nat.le_of_ble_eq_true rfl, Nat.le_of_ble_eq_true rfl⟩ 0 rfl rfl rfl [0, 1] rfl rfl rfl rfl rfl (Nat.le_of_ble_eq_true rfl) (Nat.zero_le _) (Nat.zero_le _) rfl dX9_number_34 ?_
    obtain ⟨z8, e_z8, hs⟩ := vb_ok hs
    refine g_callS (ws' := [oX9 h a_post a_read a_now a_aside a_past f_undos a_kept f_keptMany a_sights f_sightMany a_text f_size y6 y5 a_weights a_tried f_above f_below f_paid a_row a_who a_order a_bestOrder a_costs a_taken, aI cI a_text 200 f_text]) (rest := []) (st' := [.int z8]) C mX9_100 q4_230 [.int z7] (fun l D => cX9_isFigure_ct l D cI z7 e_z8) ⟨⟨rfl, rfl⟩, Nat.le_of_ble_eq_true rfl, Nat.le_of_ble_eq_true rfl⟩ rfl [] rfl rfl rfl rfl rfl (Nat.le_of_ble_eq_true rfl) (Nat.zero_le _) (Nat.zero_le _) rfl dX9_number_37 ?_
    refine g_if_eq (tgt := 72) C dX9_number_40 (by decide) (fun c9 => ?_) (fun c9 => ?_)
    · replace hs := vi_t hs c9
      refine g_aload_n (pl := 0) C dX9_number_72 rfl rfl ?_
      refine g_get C fX9_104 0 rfl rfl dX9_number_73 ?_
      refine g_i2l C dX9_number_76 ?_
      refine g_iload_n (pl := 1) C dX9_number_77 rfl rfl ?_
      refine g_i2l C dX9_number_78 ?_
      refine g_iload_n (pl := 2) C dX9_number_79 rfl rfl ?_
      refine g_i2l C dX9_number_80 ?_
      obtain ⟨z10, e_z10, hs⟩ := vb_ok hs
      refine g_callS (ws' := [oX9 h a_post a_read a_now a_aside a_past f_undos a_kept f_keptMany a_sights f_sightMany a_text f_size y6 y5 a_weights a_tried f_above f_below f_paid a_row a_who a_order a_bestOrder a_costs a_taken, aI cI a_text 200 f_text]) (rest := []) (st' := [.int z10]) C mX9_82 q4_199 [.long (Int32.toInt64 y5), .long (Int32.toInt64 x1), .long (Int32.toInt64 x2)] (fun l D => cX9_in_ct l D cI (Int32.toInt64 y5) (Int32.toInt64 x1) (Int32.toInt64 x2) e_z10) ⟨⟨rfl, rfl⟩, Nat.le_of_ble_eq_true rfl, Nat.le_of_ble_eq_true rfl⟩ rfl [] rfl rfl rfl rfl rfl (Nat.le_of_ble_eq_true rfl) (Nat.zero_le _) (Nat.zero_le _) rfl dX9_number_81 ?_
      obtain ⟨b11, hs⟩ := vg_ok hs
      cases hs
      exact hR _ _ (vz_ok b11) dX9_number_84
    · replace hs := vi_f hs c9
      refine g_aload_n (pl := 0) C dX9_number_43 rfl rfl ?_
      refine g_bipush (v := (nI 10)) C dX9_number_44 rfl ?_
      refine g_aload_n (pl := 0) C dX9_number_46 rfl rfl ?_
      refine g_get C fX9_104 0 rfl rfl dX9_number_47 ?_
      refine g_imul C dX9_number_50 ?_
      refine g_aload_n (pl := 0) C dX9_number_51 rfl rfl ?_
      obtain ⟨z12, e_z12, hs⟩ := vb_ok hs
      refine g_callV (ws' := [oX9 h a_post a_read a_now a_aside a_past f_undos a_kept f_keptMany a_sights f_sightMany a_text f_size y6 y5 a_weights a_tried f_above f_below f_paid a_row a_who a_order a_bestOrder a_costs a_taken, aI cI a_text 200 f_text]) (rest := [.int ((nI 10) * y5), .ref h]) (st' := [.int z12, .int ((nI 10) * y5), .ref h]) C mX9_92 q4_219 [] (fun l D => cX9_here_ct l D cI h a_post a_read a_now a_aside a_past a_kept a_sights a_text a_weights a_tried a_row a_who a_order a_bestOrder a_costs a_taken f_undos f_keptMany f_sightMany f_size y6 y5 f_above f_below f_paid f_text e_z12) ⟨⟨rfl, rfl⟩, Nat.le_of_ble_eq_true rfl, Nat.le_of_ble_eq_true rfl⟩ 0 rfl rfl rfl [0, 1] rfl rfl rfl rfl rfl (Nat.le_of_ble_eq_true rfl) (Nat.zero_le _) (Nat.zero_le _) rfl dX9_number_52 ?_
      refine g_iadd C dX9_number_55 ?_
      refine g_bipush (v := (nI 48)) C dX9_number_56 rfl ?_
      refine g_isub C dX9_number_58 ?_
      obtain ⟨y13, e_y13, hs⟩ := vlet_ex hs
      refine g_topi e_y13 ?_
      refine g_putI (ws' := [oX9 h a_post a_read a_now a_aside a_past f_undos a_kept f_keptMany a_sights f_sightMany a_text f_size y6 y13 a_weights a_tried f_above f_below f_paid a_row a_who a_order a_bestOrder a_costs a_taken, aI cI a_text 200 f_text]) C fX9_104 0 rfl (Nat.le_of_ble_eq_true rfl) rfl dX9_number_59 ?_
      refine g_aload_n (pl := 0) C dX9_number_62 rfl rfl ?_
      refine g_dup C dX9_number_63 rfl ?_
      refine g_get C fX9_89 0 rfl rfl dX9_number_64 ?_
      refine g_iconst (v := (nI 1)) C dX9_number_67 rfl ?_
      refine g_iadd C dX9_number_68 ?_
      obtain ⟨y14, e_y14, hs⟩ := vlet_ex hs
      refine g_topi e_y14 ?_
      refine g_putI (ws' := [oX9 h a_post a_read a_now a_aside a_past f_undos a_kept f_keptMany a_sights f_sightMany a_text f_size y14 y13 a_weights a_tried f_above f_below f_paid a_row a_who a_order a_bestOrder a_costs a_taken, aI cI a_text 200 f_text]) C fX9_89 0 rfl (Nat.le_of_ble_eq_true rfl) rfl dX9_number_69 ?_
      refine g_aload_n (pl := 0) C dX9_number_72 rfl rfl ?_
      refine g_get C fX9_104 0 rfl rfl dX9_number_73 ?_
      refine g_i2l C dX9_number_76 ?_
      refine g_iload_n (pl := 1) C dX9_number_77 rfl rfl ?_
      refine g_i2l C dX9_number_78 ?_
      refine g_iload_n (pl := 2) C dX9_number_79 rfl rfl ?_
      refine g_i2l C dX9_number_80 ?_
      obtain ⟨z15, e_z15, hs⟩ := vb_ok hs
      refine g_callS (ws' := [oX9 h a_post a_read a_now a_aside a_past f_undos a_kept f_keptMany a_sights f_sightMany a_text f_size y14 y13 a_weights a_tried f_above f_below f_paid a_row a_who a_order a_bestOrder a_costs a_taken, aI cI a_text 200 f_text]) (rest := []) (st' := [.int z15]) C mX9_82 q4_199 [.long (Int32.toInt64 y13), .long (Int32.toInt64 x1), .long (Int32.toInt64 x2)] (fun l D => cX9_in_ct l D cI (Int32.toInt64 y13) (Int32.toInt64 x1) (Int32.toInt64 x2) e_z15) ⟨⟨rfl, rfl⟩, Nat.le_of_ble_eq_true rfl, Nat.le_of_ble_eq_true rfl⟩ rfl [] rfl rfl rfl rfl rfl (Nat.le_of_ble_eq_true rfl) (Nat.zero_le _) (Nat.zero_le _) rfl dX9_number_81 ?_
      obtain ⟨b16, hs⟩ := vg_ok hs
      cases hs
      exact hR _ _ (vz_ok b16) dX9_number_84
  · replace hs := vi_t hs c3
    refine g_iconst (v := (nI 0)) C dX9_number_10 rfl ?_
    cases hs
    exact hR _ _ (Or.inl rfl) dX9_number_11
def LX9_readsWord_43 (y_1 : Int32) (f_read : Nat → Int32) (f_text : Nat → Int32) (f_size : Int32) (f_value : Int32) : Nat → Int32 → Int32 → Int32 → Option (Int32 × (Nat → Int32) × Int32 × Int32)
  | 0, _, _, _ => none
  | n + 1, y_2, y_3, f_at =>
    vb (sX9_here f_text f_size f_at) fun z1 =>
    vb (sX9_in (Int32.toInt64 z1) (lN 97) (lN 102)) fun z2 =>
    vi (z2 = 0) inferInstance (
      vb (sX9_in (Int32.toInt64 y_2) (lN 1) (lN 3)) fun z4 =>
      vi (z4 = 0) inferInstance (
        some ((nI 0), f_read, f_at, f_value)) (
        vb (sX9_word f_read y_1 y_2 y_3) fun z6 =>
        some ((nI 1), z6, f_at, f_value))) (
      vi ((nI 4) ≤ y_2) inferInstance (
        vb (sX9_in (Int32.toInt64 y_2) (lN 1) (lN 3)) fun z8 =>
        vi (z8 = 0) inferInstance (
          some ((nI 0), f_read, f_at, f_value)) (
          vb (sX9_word f_read y_1 y_2 y_3) fun z10 =>
          some ((nI 1), z10, f_at, f_value))) (
        vb (sX9_here f_text f_size f_at) fun z11 =>
        vlet (y_3 ||| ((nI 1) <<< ((z11 - (nI 97)) &&& 31))) fun y12 =>
        vlet (y_2 + (nI 1)) fun y13 =>
        vlet (f_at + (nI 1)) fun y14 =>
        LX9_readsWord_43 y_1 f_read f_text f_size f_value n y13 y12 y14))
def sX9_readsWord (f_read : Nat → Int32) (f_text : Nat → Int32) (f_size : Int32) (f_at : Int32) (f_value : Int32) : Option (Int32 × (Nat → Int32) × Int32 × Int32) :=
  vi ((f_read (Int32.toNatClampNeg (nI 0))) = (nI 8)) inferInstance (
    some ((nI 0), f_read, f_at, f_value)) (
    vb (sX9_number f_text f_size f_at f_value (nI 1) (nI 9)) fun z16 =>
    vi (z16.1 = 0) inferInstance (
      some ((nI 0), f_read, z16.2.1, z16.2.2)) (
      vb (sX9_takes f_text f_size z16.2.1 (nI 44)) fun z18 =>
      vi (z18.1 = 0) inferInstance (
        some ((nI 0), f_read, z18.2, z16.2.2)) (
        LX9_readsWord_43 z16.2.2 f_read f_text f_size z16.2.2 vF (nI 0) (nI 0) z18.2)))
abbrev rmX9_readsWord : Room := { frames := 3, cells := 0, slots := 0, locals := 67 }
set_option maxHeartbeats 4000000 in
set_option maxRecDepth 100000 in
theorem LX9_readsWord_43_w {cI : ClassId} {X : xT} (C : cx cI X 4 cX9_readsWord RX9 rmX9_readsWord) (h : Nat) (a_post : Nat) (a_read : Nat) (a_now : Nat) (a_aside : Nat) (a_past : Nat) (a_kept : Nat) (a_sights : Nat) (a_text : Nat) (a_weights : Nat) (a_tried : Nat) (a_row : Nat) (a_who : Nat) (a_order : Nat) (a_bestOrder : Nat) (a_costs : Nat) (a_taken : Nat) (f_undos : Int32) (f_keptMany : Int32) (f_sightMany : Int32) (f_size : Int32) (f_value : Int32) (f_above : Int64) (f_below : Int64) (f_paid : Int32) (f_read : Nat → Int32) (f_text : Nat → Int32) (y_1 : Int32) {z : Int32 × (Nat → Int32) × Int32 × Int32} (hR : ∀ (lv : List (Nat × Value)) (pc : Nat), (z.1 = 0 ∨ z.1 = 1) → decode cX9_readsWord pc = .ok (.ireturn, 1) → gg cI X 4 0 0 [oX9 h a_post a_read a_now a_aside a_past f_undos a_kept f_keptMany a_sights f_sightMany a_text f_size z.2.2.1 z.2.2.2 a_weights a_tried f_above f_below f_paid a_row a_who a_order a_bestOrder a_costs a_taken, aI cI a_read 52 z.2.1, aI cI a_text 200 f_text] lv pc [.int z.1]) : ∀ (n : Nat) (y_2 : Int32) (y_3 : Int32) (f_at : Int32), LX9_readsWord_43 y_1 f_read f_text f_size f_value n y_2 y_3 f_at = some z → gg cI X 4 0 0 [oX9 h a_post a_read a_now a_aside a_past f_undos a_kept f_keptMany a_sights f_sightMany a_text f_size f_at f_value a_weights a_tried f_above f_below f_paid a_row a_who a_order a_bestOrder a_costs a_taken, aI cI a_read 52 f_read, aI cI a_text 200 f_text] [(0, .ref h), (1, .int y_1), (2, .int y_2), (3, .int y_3)] 43 [] := by
  intro n
  induction n with
  | zero =>
    intro y_2 y_3 f_at hs
    exact nn_ok hs
  | succ n ih =>
    intro y_2 y_3 f_at hs
    rw [LX9_readsWord_43] at hs
    refine g_aload_n (pl := 0) C dX9_readsWord_43 rfl rfl ?_
    obtain ⟨z1, e_z1, hs⟩ := vb_ok hs
    refine g_callV (ws' := [oX9 h a_post a_read a_now a_aside a_past f_undos a_kept f_keptMany a_sights f_sightMany a_text f_size f_at f_value a_weights a_tried f_above f_below f_paid a_row a_who a_order a_bestOrder a_costs a_taken, aI cI a_read 52 f_read, aI cI a_text 200 f_text]) (rest := []) (st' := [.int z1]) C mX9_92 q4_219 [] (fun l D => cX9_here_ct l D cI h a_post a_read a_now a_aside a_past a_kept a_sights a_text a_weights a_tried a_row a_who a_order a_bestOrder a_costs a_taken f_undos f_keptMany f_sightMany f_size f_at f_value f_above f_below f_paid f_text e_z1) ⟨⟨rfl, rfl⟩, Nat.le_of_ble_eq_true rfl, Nat.le_of_ble_eq_true rfl⟩ 0 rfl rfl rfl [0, 2] rfl rfl rfl rfl rfl (Nat.le_of_ble_eq_true rfl) (Nat.zero_le _) (Nat.zero_le _) rfl dX9_readsWord_44 ?_
    refine g_i2l C dX9_readsWord_47 ?_
    refine g_ldc2 (v := (lN 97)) C q4_237 dX9_readsWord_48 ?_
    refine g_ldc2 (v := (lN 102)) C q4_238 dX9_readsWord_51 ?_
    obtain ⟨z2, e_z2, hs⟩ := vb_ok hs
    refine g_callS (ws' := [oX9 h a_post a_read a_now a_aside a_past f_undos a_kept f_keptMany a_sights f_sightMany a_text f_size f_at f_value a_weights a_tried f_above f_below f_paid a_row a_who a_order a_bestOrder a_costs a_taken, aI cI a_read 52 f_read, aI cI a_text 200 f_text]) (rest := []) (st' := [.int z2]) C mX9_82 q4_199 [.long (Int32.toInt64 z1), .long (lN 97), .long (lN 102)] (fun l D => cX9_in_ct l D cI (Int32.toInt64 z1) (lN 97) (lN 102) e_z2) ⟨⟨rfl, rfl⟩, Nat.le_of_ble_eq_true rfl, Nat.le_of_ble_eq_true rfl⟩ rfl [] rfl rfl rfl rfl rfl (Nat.le_of_ble_eq_true rfl) (Nat.zero_le _) (Nat.zero_le _) rfl dX9_readsWord_54 ?_
    refine g_if_eq (tgt := 93) C dX9_readsWord_57 (by decide) (fun c3 => ?_) (fun c3 => ?_)
    · replace hs := vi_t hs c3
      refine g_iload_n (pl := 2) C dX9_readsWord_93 rfl rfl ?_
      refine g_i2l C dX9_readsWord_94 ?_
      refine g_lconst (v := (lN 1)) C dX9_readsWord_95 rfl ?_
      refine g_ldc2 (v := (lN 3)) C q4_239 dX9_readsWord_96 ?_
      obtain ⟨z4, e_z4, hs⟩ := vb_ok hs
      refine g_callS (ws' := [oX9 h a_post a_read a_now a_aside a_past f_undos a_kept f_keptMany a_sights f_sightMany a_text f_size f_at f_value a_weights a_tried f_above f_below f_paid a_row a_who a_order a_bestOrder a_costs a_taken, aI cI a_read 52 f_read, aI cI a_text 200 f_text]) (rest := []) (st' := [.int z4]) C mX9_82 q4_199 [.long (Int32.toInt64 y_2), .long (lN 1), .long (lN 3)] (fun l D => cX9_in_ct l D cI (Int32.toInt64 y_2) (lN 1) (lN 3) e_z4) ⟨⟨rfl, rfl⟩, Nat.le_of_ble_eq_true rfl, Nat.le_of_ble_eq_true rfl⟩ rfl [] rfl rfl rfl rfl rfl (Nat.le_of_ble_eq_true rfl) (Nat.zero_le _) (Nat.zero_le _) rfl dX9_readsWord_99 ?_
      refine g_if_ne (tgt := 107) C dX9_readsWord_102 (by decide) (fun c5 => ?_) (fun c5 => ?_)
      · replace hs := vi_f hs c5
        refine g_aload_n (pl := 0) C dX9_readsWord_107 rfl rfl ?_
        refine g_get C fX9_13 0 rfl rfl dX9_readsWord_108 ?_
        refine g_iload_n (pl := 1) C dX9_readsWord_111 rfl rfl ?_
        refine g_iload_n (pl := 2) C dX9_readsWord_112 rfl rfl ?_
        refine g_iload_n (pl := 3) C dX9_readsWord_113 rfl rfl ?_
        obtain ⟨z6, e_z6, hs⟩ := vb_ok hs
        refine g_callS (ws' := [oX9 h a_post a_read a_now a_aside a_past f_undos a_kept f_keptMany a_sights f_sightMany a_text f_size f_at f_value a_weights a_tried f_above f_below f_paid a_row a_who a_order a_bestOrder a_costs a_taken, aI cI a_read 52 z6, aI cI a_text 200 f_text]) (rest := []) (st' := []) C mX9_58 q4_107 [.ref a_read, .int y_1, .int y_2, .int y_3] (fun l D => cX9_word_ct l D cI a_read f_read y_1 y_2 y_3 e_z6) ⟨⟨rfl, rfl⟩, Nat.le_of_ble_eq_true rfl, Nat.le_of_ble_eq_true rfl⟩ rfl [1] rfl rfl rfl rfl rfl (Nat.le_of_ble_eq_true rfl) (Nat.zero_le _) (Nat.zero_le _) rfl dX9_readsWord_114 ?_
        refine g_iconst (v := (nI 1)) C dX9_readsWord_117 rfl ?_
        cases hs
        exact hR _ _ (Or.inr rfl) dX9_readsWord_118
      · replace hs := vi_t hs c5
        refine g_iconst (v := (nI 0)) C dX9_readsWord_105 rfl ?_
        cases hs
        exact hR _ _ (Or.inl rfl) dX9_readsWord_106
    · replace hs := vi_f hs c3
      refine g_iload_n (pl := 2) C dX9_readsWord_60 rfl rfl ?_
      refine g_iconst (v := (nI 4)) C dX9_readsWord_61 rfl ?_
      refine g_icmp_ge (tgt := 93) C dX9_readsWord_62 (by decide) (fun c7 => ?_) (fun c7 => ?_)
      · replace hs := vi_t hs c7
        refine g_iload_n (pl := 2) C dX9_readsWord_93 rfl rfl ?_
        refine g_i2l C dX9_readsWord_94 ?_
        refine g_lconst (v := (lN 1)) C dX9_readsWord_95 rfl ?_
        refine g_ldc2 (v := (lN 3)) C q4_239 dX9_readsWord_96 ?_
        obtain ⟨z8, e_z8, hs⟩ := vb_ok hs
        refine g_callS (ws' := [oX9 h a_post a_read a_now a_aside a_past f_undos a_kept f_keptMany a_sights f_sightMany a_text f_size f_at f_value a_weights a_tried f_above f_below f_paid a_row a_who a_order a_bestOrder a_costs a_taken, aI cI a_read 52 f_read, aI cI a_text 200 f_text]) (rest := []) (st' := [.int z8]) C mX9_82 q4_199 [.long (Int32.toInt64 y_2), .long (lN 1), .long (lN 3)] (fun l D => cX9_in_ct l D cI (Int32.toInt64 y_2) (lN 1) (lN 3) e_z8) ⟨⟨rfl, rfl⟩, Nat.le_of_ble_eq_true rfl, Nat.le_of_ble_eq_true rfl⟩ rfl [] rfl rfl rfl rfl rfl (Nat.le_of_ble_eq_true rfl) (Nat.zero_le _) (Nat.zero_le _) rfl dX9_readsWord_99 ?_
        refine g_if_ne (tgt := 107) C dX9_readsWord_102 (by decide) (fun c9 => ?_) (fun c9 => ?_)
        · replace hs := vi_f hs c9
          refine g_aload_n (pl := 0) C dX9_readsWord_107 rfl rfl ?_
          refine g_get C fX9_13 0 rfl rfl dX9_readsWord_108 ?_
          refine g_iload_n (pl := 1) C dX9_readsWord_111 rfl rfl ?_
          refine g_iload_n (pl := 2) C dX9_readsWord_112 rfl rfl ?_
          refine g_iload_n (pl := 3) C dX9_readsWord_113 rfl rfl ?_
          obtain ⟨z10, e_z10, hs⟩ := vb_ok hs
          refine g_callS (ws' := [oX9 h a_post a_read a_now a_aside a_past f_undos a_kept f_keptMany a_sights f_sightMany a_text f_size f_at f_value a_weights a_tried f_above f_below f_paid a_row a_who a_order a_bestOrder a_costs a_taken, aI cI a_read 52 z10, aI cI a_text 200 f_text]) (rest := []) (st' := []) C mX9_58 q4_107 [.ref a_read, .int y_1, .int y_2, .int y_3] (fun l D => cX9_word_ct l D cI a_read f_read y_1 y_2 y_3 e_z10) ⟨⟨rfl, rfl⟩, Nat.le_of_ble_eq_true rfl, Nat.le_of_ble_eq_true rfl⟩ rfl [1] rfl rfl rfl rfl rfl (Nat.le_of_ble_eq_true rfl) (Nat.zero_le _) (Nat.zero_le _) rfl dX9_readsWord_114 ?_
          refine g_iconst (v := (nI 1)) C dX9_readsWord_117 rfl ?_
          cases hs
          exact hR _ _ (Or.inr rfl) dX9_readsWord_118
        · replace hs := vi_t hs c9
          refine g_iconst (v := (nI 0)) C dX9_readsWord_105 rfl ?_
          cases hs
          exact hR _ _ (Or.inl rfl) dX9_readsWord_106
      · replace hs := vi_f hs c7
        refine g_iload_n (pl := 3) C dX9_readsWord_65 rfl rfl ?_
        refine g_iconst (v := (nI 1)) C dX9_readsWord_66 rfl ?_
        refine g_aload_n (pl := 0) C dX9_readsWord_67 rfl rfl ?_
        obtain ⟨z11, e_z11, hs⟩ := vb_ok hs
        refine g_callV (ws' := [oX9 h a_post a_read a_now a_aside a_past f_undos a_kept f_keptMany a_sights f_sightMany a_text f_size f_at f_value a_weights a_tried f_above f_below f_paid a_row a_who a_order a_bestOrder a_costs a_taken, aI cI a_read 52 f_read, aI cI a_text 200 f_text]) (rest := [.int (nI 1), .int y_3]) (st' := [.int z11, .int (nI 1), .int y_3]) C mX9_92 q4_219 [] (fun l D => cX9_here_ct l D cI h a_post a_read a_now a_aside a_past a_kept a_sights a_text a_weights a_tried a_row a_who a_order a_bestOrder a_costs a_taken f_undos f_keptMany f_sightMany f_size f_at f_value f_above f_below f_paid f_text e_z11) ⟨⟨rfl, rfl⟩, Nat.le_of_ble_eq_true rfl, Nat.le_of_ble_eq_true rfl⟩ 0 rfl rfl rfl [0, 2] rfl rfl rfl rfl rfl (Nat.le_of_ble_eq_true rfl) (Nat.zero_le _) (Nat.zero_le _) rfl dX9_readsWord_68 ?_
        refine g_bipush (v := (nI 97)) C dX9_readsWord_71 rfl ?_
        refine g_isub C dX9_readsWord_73 ?_
        refine g_ishl C dX9_readsWord_74 ?_
        refine g_ior C dX9_readsWord_75 ?_
        obtain ⟨y12, e_y12, hs⟩ := vlet_ex hs
        refine g_topi e_y12 ?_
        refine g_istore_n (lv' := [(3, .int y12), (0, .ref h), (1, .int y_1), (2, .int y_2)]) C dX9_readsWord_76 rfl (by decide) rfl ?_
        obtain ⟨y13, e_y13, hs⟩ := vlet_ex hs
        refine g_iinc (pl := 3) (lv' := [(2, .int y13), (3, .int y12), (0, .ref h), (1, .int y_1)]) C dX9_readsWord_77 rfl e_y13.symm (by decide) rfl ?_
        refine g_aload_n (pl := 2) C dX9_readsWord_80 rfl rfl ?_
        refine g_dup C dX9_readsWord_81 rfl ?_
        refine g_get C fX9_89 0 rfl rfl dX9_readsWord_82 ?_
        refine g_iconst (v := (nI 1)) C dX9_readsWord_85 rfl ?_
        refine g_iadd C dX9_readsWord_86 ?_
        obtain ⟨y14, e_y14, hs⟩ := vlet_ex hs
        refine g_topi e_y14 ?_
        refine g_putI (ws' := [oX9 h a_post a_read a_now a_aside a_past f_undos a_kept f_keptMany a_sights f_sightMany a_text f_size y14 f_value a_weights a_tried f_above f_below f_paid a_row a_who a_order a_bestOrder a_costs a_taken, aI cI a_read 52 f_read, aI cI a_text 200 f_text]) C fX9_89 0 rfl (Nat.le_of_ble_eq_true rfl) rfl dX9_readsWord_87 ?_
        refine g_goto (tgt := 43) C dX9_readsWord_90 (by decide) ?_
        refine g_sub [2, 3, 0, 1] rfl ?_
        exact ih y13 y12 y14 hs
set_option maxHeartbeats 4000000 in
set_option maxRecDepth 100000 in
theorem cX9_readsWord_ct (l : Launch) (D : va_G) (cI : ClassId) (h : Nat) (a_post : Nat) (a_read : Nat) (a_now : Nat) (a_aside : Nat) (a_past : Nat) (a_kept : Nat) (a_sights : Nat) (a_text : Nat) (a_weights : Nat) (a_tried : Nat) (a_row : Nat) (a_who : Nat) (a_order : Nat) (a_bestOrder : Nat) (a_costs : Nat) (a_taken : Nat) (f_undos : Int32) (f_keptMany : Int32) (f_sightMany : Int32) (f_size : Int32) (f_at : Int32) (f_value : Int32) (f_above : Int64) (f_below : Int64) (f_paid : Int32) (f_read : Nat → Int32) (f_text : Nat → Int32) {z : Int32 × (Nat → Int32) × Int32 × Int32} (hs : sX9_readsWord f_read f_text f_size f_at f_value = some z) : ct l yX9_readsWord (.code yX9_readsWord cX9_readsWord 4 (some .boolean) :: gtb) rmX9_readsWord D cI [.ref h] [oX9 h a_post a_read a_now a_aside a_past f_undos a_kept f_keptMany a_sights f_sightMany a_text f_size f_at f_value a_weights a_tried f_above f_below f_paid a_row a_who a_order a_bestOrder a_costs a_taken, aI cI a_read 52 f_read, aI cI a_text 200 f_text] (some (.int z.1)) [oX9 h a_post a_read a_now a_aside a_past f_undos a_kept f_keptMany a_sights f_sightMany a_text f_size z.2.2.1 z.2.2.2 a_weights a_tried f_above f_below f_paid a_row a_who a_order a_bestOrder a_costs a_taken, aI cI a_read 52 z.2.1, aI cI a_text 200 f_text] := by
  refine ct_ofZ (own := RX9) (by decide +kernel) rfl (Nat.le_of_ble_eq_true rfl) (fun X C hD hR => ?_)
  unfold sX9_readsWord at hs
  show gg cI X 4 0 0 [oX9 h a_post a_read a_now a_aside a_past f_undos a_kept f_keptMany a_sights f_sightMany a_text f_size f_at f_value a_weights a_tried f_above f_below f_paid a_row a_who a_order a_bestOrder a_costs a_taken, aI cI a_read 52 f_read, aI cI a_text 200 f_text] [(0, .ref h)] 0 []
  refine g_aload_n (pl := 0) C dX9_readsWord_0 rfl rfl ?_
  refine g_get C fX9_13 0 rfl rfl dX9_readsWord_1 ?_
  refine g_iconst (v := (nI 0)) C dX9_readsWord_4 rfl ?_
  refine g_iald C 1 rfl (vin_ok rfl) dX9_readsWord_5 ?_
  refine g_bipush (v := (nI 8)) C dX9_readsWord_6 rfl ?_
  refine g_icmp_eq (tgt := 21) C dX9_readsWord_8 (by decide) (fun c15 => ?_) (fun c15 => ?_)
  · replace hs := vi_t hs c15
    refine g_iconst (v := (nI 0)) C dX9_readsWord_21 rfl ?_
    cases hs
    exact hR _ _ (Or.inl rfl) dX9_readsWord_22
  · replace hs := vi_f hs c15
    refine g_aload_n (pl := 0) C dX9_readsWord_11 rfl rfl ?_
    refine g_iconst (v := (nI 1)) C dX9_readsWord_12 rfl ?_
    refine g_bipush (v := (nI 9)) C dX9_readsWord_13 rfl ?_
    obtain ⟨z16, e_z16, hs⟩ := vb_ok hs
    refine g_callV (ws' := [oX9 h a_post a_read a_now a_aside a_past f_undos a_kept f_keptMany a_sights f_sightMany a_text f_size z16.2.1 z16.2.2 a_weights a_tried f_above f_below f_paid a_row a_who a_order a_bestOrder a_costs a_taken, aI cI a_read 52 f_read, aI cI a_text 200 f_text]) (rest := []) (st' := [.int z16.1]) C mX9_107 q4_227 [.int (nI 1), .int (nI 9)] (fun l D => cX9_number_ct l D cI h a_post a_read a_now a_aside a_past a_kept a_sights a_text a_weights a_tried a_row a_who a_order a_bestOrder a_costs a_taken f_undos f_keptMany f_sightMany f_size f_at f_value f_above f_below f_paid f_text (nI 1) (nI 9) e_z16) ⟨⟨rfl, rfl⟩, Nat.le_of_ble_eq_true rfl, Nat.le_of_ble_eq_true rfl⟩ 0 rfl rfl rfl [0, 2] rfl rfl rfl rfl rfl (Nat.le_of_ble_eq_true rfl) (Nat.zero_le _) (Nat.zero_le _) rfl dX9_readsWord_15 ?_
    refine g_if_ne (tgt := 23) C dX9_readsWord_18 (by decide) (fun c17 => ?_) (fun c17 => ?_)
    · replace hs := vi_f hs c17
      refine g_aload_n (pl := 0) C dX9_readsWord_23 rfl rfl ?_
      refine g_get C fX9_104 0 rfl rfl dX9_readsWord_24 ?_
      refine g_istore_n (lv' := [(1, .int z16.2.2), (0, .ref h)]) C dX9_readsWord_27 rfl (by decide) rfl ?_
      refine g_iconst (v := (nI 0)) C dX9_readsWord_28 rfl ?_
      refine g_istore_n (lv' := [(2, .int (nI 0)), (1, .int z16.2.2), (0, .ref h)]) C dX9_readsWord_29 rfl (by decide) rfl ?_
      refine g_iconst (v := (nI 0)) C dX9_readsWord_30 rfl ?_
      refine g_istore_n (lv' := [(3, .int (nI 0)), (2, .int (nI 0)), (1, .int z16.2.2), (0, .ref h)]) C dX9_readsWord_31 rfl (by decide) rfl ?_
      refine g_aload_n (pl := 3) C dX9_readsWord_32 rfl rfl ?_
      refine g_bipush (v := (nI 44)) C dX9_readsWord_33 rfl ?_
      obtain ⟨z18, e_z18, hs⟩ := vb_ok hs
      refine g_callV (ws' := [oX9 h a_post a_read a_now a_aside a_past f_undos a_kept f_keptMany a_sights f_sightMany a_text f_size z18.2 z16.2.2 a_weights a_tried f_above f_below f_paid a_row a_who a_order a_bestOrder a_costs a_taken, aI cI a_read 52 f_read, aI cI a_text 200 f_text]) (rest := []) (st' := [.int z18.1]) C mX9_111 q4_236 [.int (nI 44)] (fun l D => cX9_takes_ct l D cI h a_post a_read a_now a_aside a_past a_kept a_sights a_text a_weights a_tried a_row a_who a_order a_bestOrder a_costs a_taken f_undos f_keptMany f_sightMany f_size z16.2.1 z16.2.2 f_above f_below f_paid f_text (nI 44) e_z18) ⟨⟨rfl, rfl⟩, Nat.le_of_ble_eq_true rfl, Nat.le_of_ble_eq_true rfl⟩ 0 rfl rfl rfl [0, 2] rfl rfl rfl rfl rfl (Nat.le_of_ble_eq_true rfl) (Nat.zero_le _) (Nat.zero_le _) rfl dX9_readsWord_35 ?_
      refine g_if_ne (tgt := 43) C dX9_readsWord_38 (by decide) (fun c19 => ?_) (fun c19 => ?_)
      · replace hs := vi_f hs c19
        refine g_sub [3, 2, 1, 0] rfl ?_
        exact LX9_readsWord_43_w C h a_post a_read a_now a_aside a_past a_kept a_sights a_text a_weights a_tried a_row a_who a_order a_bestOrder a_costs a_taken f_undos f_keptMany f_sightMany f_size z16.2.2 f_above f_below f_paid f_read f_text z16.2.2 hR _ (nI 0) (nI 0) z18.2 hs
      · replace hs := vi_t hs c19
        refine g_iconst (v := (nI 0)) C dX9_readsWord_41 rfl ?_
        cases hs
        exact hR _ _ (Or.inl rfl) dX9_readsWord_42
    · replace hs := vi_t hs c17
      refine g_iconst (v := (nI 0)) C dX9_readsWord_21 rfl ?_
      cases hs
      exact hR _ _ (Or.inl rfl) dX9_readsWord_22
def LX9_readsLikeness_2 (f_read : Nat → Int32) (f_text : Nat → Int32) (f_size : Int32) : Nat → Int32 → Int32 → Option (Int32 × (Nat → Int32) × Int32)
  | 0, _, _ => none
  | n + 1, y_1, f_at =>
    vb (sX9_here f_text f_size f_at) fun z1 =>
    vb (sX9_isFigure z1) fun z2 =>
    vi (z2 = 0) inferInstance (
      vi (y_1 = 0) inferInstance (
        some ((nI 0), f_read, f_at)) (
        vi ((f_read (Int32.toNatClampNeg (nI 1))) = (nI 6)) inferInstance (
          some ((nI 0), f_read, f_at)) (
          vg (vin ((nI 31) + (f_read (Int32.toNatClampNeg (nI 1)))) 52) (
          vlet (upd f_read (Int32.toNatClampNeg ((nI 31) + (f_read (Int32.toNatClampNeg (nI 1))))) y_1) fun u7 =>
          vlet ((u7 (Int32.toNatClampNeg (nI 1))) + (nI 1)) fun y8 =>
          vlet (upd u7 (Int32.toNatClampNeg (nI 1)) y8) fun u9 =>
          some ((nI 1), u9, f_at))))) (
      vb (sX9_here f_text f_size f_at) fun z10 =>
      vlet (z10 - (nI 48)) fun y11 =>
      vi ((f_read (Int32.toNatClampNeg (nI 0))) ≤ y11) inferInstance (
        some ((nI 0), f_read, f_at)) (
        vb (sX9_has y_1 y11) fun z13 =>
        vi (z13 = 0) inferInstance (
          vlet (y_1 ||| ((nI 1) <<< (y11 &&& 31))) fun y15 =>
          vlet (f_at + (nI 1)) fun y16 =>
          LX9_readsLikeness_2 f_read f_text f_size n y15 y16) (
          some ((nI 0), f_read, f_at))))
def sX9_readsLikeness (f_read : Nat → Int32) (f_text : Nat → Int32) (f_size : Int32) (f_at : Int32) : Option (Int32 × (Nat → Int32) × Int32) :=
  LX9_readsLikeness_2 f_read f_text f_size vF (nI 0) f_at
abbrev rmX9_readsLikeness : Room := { frames := 2, cells := 0, slots := 0, locals := 45 }
set_option maxHeartbeats 4000000 in
set_option maxRecDepth 100000 in
theorem LX9_readsLikeness_2_w {cI : ClassId} {X : xT} (C : cx cI X 3 cX9_readsLikeness RX9 rmX9_readsLikeness) (h : Nat) (a_post : Nat) (a_read : Nat) (a_now : Nat) (a_aside : Nat) (a_past : Nat) (a_kept : Nat) (a_sights : Nat) (a_text : Nat) (a_weights : Nat) (a_tried : Nat) (a_row : Nat) (a_who : Nat) (a_order : Nat) (a_bestOrder : Nat) (a_costs : Nat) (a_taken : Nat) (f_undos : Int32) (f_keptMany : Int32) (f_sightMany : Int32) (f_size : Int32) (f_value : Int32) (f_above : Int64) (f_below : Int64) (f_paid : Int32) (f_read : Nat → Int32) (f_text : Nat → Int32) {z : Int32 × (Nat → Int32) × Int32} (hR : ∀ (lv : List (Nat × Value)) (pc : Nat), (z.1 = 0 ∨ z.1 = 1) → decode cX9_readsLikeness pc = .ok (.ireturn, 1) → gg cI X 3 0 0 [oX9 h a_post a_read a_now a_aside a_past f_undos a_kept f_keptMany a_sights f_sightMany a_text f_size z.2.2 f_value a_weights a_tried f_above f_below f_paid a_row a_who a_order a_bestOrder a_costs a_taken, aI cI a_read 52 z.2.1, aI cI a_text 200 f_text] lv pc [.int z.1]) : ∀ (n : Nat) (y_1 : Int32) (f_at : Int32), LX9_readsLikeness_2 f_read f_text f_size n y_1 f_at = some z → gg cI X 3 0 0 [oX9 h a_post a_read a_now a_aside a_past f_undos a_kept f_keptMany a_sights f_sightMany a_text f_size f_at f_value a_weights a_tried f_above f_below f_paid a_row a_who a_order a_bestOrder a_costs a_taken, aI cI a_read 52 f_read, aI cI a_text 200 f_text] [(0, .ref h), (1, .int y_1)] 2 [] := by
  intro n
  induction n with
  | zero =>
    intro y_1 f_at hs
    exact nn_ok hs
  | succ n ih =>
    intro y_1 f_at hs
    rw [LX9_readsLikeness_2] at hs
    refine g_aload_n (pl := 0) C dX9_readsLikeness_2 rfl rfl ?_
    obtain ⟨z1, e_z1, hs⟩ := vb_ok hs
    refine g_callV (ws' := [oX9 h a_post a_read a_now a_aside a_past f_undos a_kept f_keptMany a_sights f_sightMany a_text f_size f_at f_value a_weights a_tried f_above f_below f_paid a_row a_who a_order a_bestOrder a_costs a_taken, aI cI a_read 52 f_read, aI cI a_text 200 f_text]) (rest := []) (st' := [.int z1]) C mX9_92 q4_219 [] (fun l D => cX9_here_ct l D cI h a_post a_read a_now a_aside a_past a_kept a_sights a_text a_weights a_tried a_row a_who a_order a_bestOrder a_costs a_taken f_undos f_keptMany f_sightMany f_size f_at f_value f_above f_below f_paid f_text e_z1) ⟨⟨rfl, rfl⟩, Nat.le_of_ble_eq_true rfl, Nat.le_of_ble_eq_true rfl⟩ 0 rfl rfl rfl [0, 2] rfl rfl rfl rfl rfl (Nat.le_of_ble_eq_true rfl) (Nat.zero_le _) (Nat.zero_le _) rfl dX9_readsLikeness_3 ?_
    obtain ⟨z2, e_z2, hs⟩ := vb_ok hs
    refine g_callS (ws' := [oX9 h a_post a_read a_now a_aside a_past f_undos a_kept f_keptMany a_sights f_sightMany a_text f_size f_at f_value a_weights a_tried f_above f_below f_paid a_row a_who a_order a_bestOrder a_costs a_taken, aI cI a_read 52 f_read, aI cI a_text 200 f_text]) (rest := []) (st' := [.int z2]) C mX9_100 q4_230 [.int z1] (fun l D => cX9_isFigure_ct l D cI z1 e_z2) ⟨⟨rfl, rfl⟩, Nat.le_of_ble_eq_true rfl, Nat.le_of_ble_eq_true rfl⟩ rfl [] rfl rfl rfl rfl rfl (Nat.le_of_ble_eq_true rfl) (Nat.zero_le _) (Nat.zero_le _) rfl dX9_readsLikeness_6 ?_
    refine g_if_eq (tgt := 59) C dX9_readsLikeness_9 (by decide) (fun c3 => ?_) (fun c3 => ?_)
    · replace hs := vi_t hs c3
      refine g_iload_n (pl := 1) C dX9_readsLikeness_59 rfl rfl ?_
      refine g_if_eq (tgt := 74) C dX9_readsLikeness_60 (by decide) (fun c4 => ?_) (fun c4 => ?_)
      · replace hs := vi_t hs c4
        refine g_iconst (v := (nI 0)) C dX9_readsLikeness_74 rfl ?_
        cases hs
        exact hR _ _ (Or.inl rfl) dX9_readsLikeness_75
      · replace hs := vi_f hs c4
        refine g_aload_n (pl := 0) C dX9_readsLikeness_63 rfl rfl ?_
        refine g_get C fX9_13 0 rfl rfl dX9_readsLikeness_64 ?_
        refine g_iconst (v := (nI 1)) C dX9_readsLikeness_67 rfl ?_
        refine g_iald C 1 rfl (vin_ok rfl) dX9_readsLikeness_68 ?_
        refine g_bipush (v := (nI 6)) C dX9_readsLikeness_69 rfl ?_
        refine g_icmp_ne (tgt := 76) C dX9_readsLikeness_71 (by decide) (fun c5 => ?_) (fun c5 => ?_)
        · replace hs := vi_f hs c5
          refine g_aload_n (pl := 0) C dX9_readsLikeness_76 rfl rfl ?_
          refine g_get C fX9_13 0 rfl rfl dX9_readsLikeness_77 ?_
          refine g_bipush (v := (nI 31)) C dX9_readsLikeness_80 rfl ?_
          refine g_aload_n (pl := 0) C dX9_readsLikeness_82 rfl rfl ?_
          refine g_get C fX9_13 0 rfl rfl dX9_readsLikeness_83 ?_
          refine g_iconst (v := (nI 1)) C dX9_readsLikeness_86 rfl ?_
          refine g_iald C 1 rfl (vin_ok rfl) dX9_readsLikeness_87 ?_
          refine g_iadd C dX9_readsLikeness_88 ?_
          refine g_iload_n (pl := 1) C dX9_readsLikeness_89 rfl rfl ?_
          obtain ⟨b6, hs⟩ := vg_ok hs
          obtain ⟨u7, e_u7, hs⟩ := vlet_ex hs
          refine g_iast (ws' := [oX9 h a_post a_read a_now a_aside a_past f_undos a_kept f_keptMany a_sights f_sightMany a_text f_size f_at f_value a_weights a_tried f_above f_below f_paid a_row a_who a_order a_bestOrder a_costs a_taken, aI cI a_read 52 u7, aI cI a_text 200 f_text]) C 1 rfl (vin_ok b6) (by rw [e_u7]; rfl) dX9_readsLikeness_90 ?_
          refine g_aload_n (pl := 0) C dX9_readsLikeness_91 rfl rfl ?_
          refine g_get C fX9_13 0 rfl rfl dX9_readsLikeness_92 ?_
          refine g_iconst (v := (nI 1)) C dX9_readsLikeness_95 rfl ?_
          refine g_dup2 C dX9_readsLikeness_96 rfl rfl ?_
          refine g_iald C 1 rfl (vin_ok rfl) dX9_readsLikeness_97 ?_
          refine g_iconst (v := (nI 1)) C dX9_readsLikeness_98 rfl ?_
          refine g_iadd C dX9_readsLikeness_99 ?_
          obtain ⟨y8, e_y8, hs⟩ := vlet_ex hs
          refine g_topi e_y8 ?_
          obtain ⟨u9, e_u9, hs⟩ := vlet_ex hs
          refine g_iast (ws' := [oX9 h a_post a_read a_now a_aside a_past f_undos a_kept f_keptMany a_sights f_sightMany a_text f_size f_at f_value a_weights a_tried f_above f_below f_paid a_row a_who a_order a_bestOrder a_costs a_taken, aI cI a_read 52 u9, aI cI a_text 200 f_text]) C 1 rfl (vin_ok rfl) (by rw [e_u9]; rfl) dX9_readsLikeness_100 ?_
          refine g_iconst (v := (nI 1)) C dX9_readsLikeness_101 rfl ?_
          cases hs
          exact hR _ _ (Or.inr rfl) dX9_readsLikeness_102
        · replace hs := vi_t hs c5
          refine g_iconst (v := (nI 0)) C dX9_readsLikeness_74 rfl ?_
          cases hs
          exact hR _ _ (Or.inl rfl) dX9_readsLikeness_75
    · replace hs := vi_f hs c3
      refine g_aload_n (pl := 0) C dX9_readsLikeness_12 rfl rfl ?_
      obtain ⟨z10, e_z10, hs⟩ := vb_ok hs
      refine g_callV (ws' := [oX9 h a_post a_read a_now a_aside a_past f_undos a_kept f_keptMany a_sights f_sightMany a_text f_size f_at f_value a_weights a_tried f_above f_below f_paid a_row a_who a_order a_bestOrder a_costs a_taken, aI cI a_read 52 f_read, aI cI a_text 200 f_text]) (rest := []) (st' := [.int z10]) C mX9_92 q4_219 [] (fun l D => cX9_here_ct l D cI h a_post a_read a_now a_aside a_past a_kept a_sights a_text a_weights a_tried a_row a_who a_order a_bestOrder a_costs a_taken f_undos f_keptMany f_sightMany f_size f_at f_value f_above f_below f_paid f_text e_z10) ⟨⟨rfl, rfl⟩, Nat.le_of_ble_eq_true rfl, Nat.le_of_ble_eq_true rfl⟩ 0 rfl rfl rfl [0, 2] rfl rfl rfl rfl rfl (Nat.le_of_ble_eq_true rfl) (Nat.zero_le _) (Nat.zero_le _) rfl dX9_readsLikeness_13 ?_
      refine g_bipush (v := (nI 48)) C dX9_readsLikeness_16 rfl ?_
      refine g_isub C dX9_readsLikeness_18 ?_
      obtain ⟨y11, e_y11, hs⟩ := vlet_ex hs
      refine g_topi e_y11 ?_
      refine g_istore_n (lv' := [(2, .int y11), (0, .ref h), (1, .int y_1)]) C dX9_readsLikeness_19 rfl (by decide) rfl ?_
      refine g_iload_n (pl := 0) C dX9_readsLikeness_20 rfl rfl ?_
      refine g_aload_n (pl := 1) C dX9_readsLikeness_21 rfl rfl ?_
      refine g_get C fX9_13 0 rfl rfl dX9_readsLikeness_22 ?_
      refine g_iconst (v := (nI 0)) C dX9_readsLikeness_25 rfl ?_
      refine g_iald C 1 rfl (vin_ok rfl) dX9_readsLikeness_26 ?_
      refine g_icmp_ge (tgt := 38) C dX9_readsLikeness_27 (by decide) (fun c12 => ?_) (fun c12 => ?_)
      · replace hs := vi_t hs c12
        refine g_iconst (v := (nI 0)) C dX9_readsLikeness_38 rfl ?_
        cases hs
        exact hR _ _ (Or.inl rfl) dX9_readsLikeness_39
      · replace hs := vi_f hs c12
        refine g_iload_n (pl := 2) C dX9_readsLikeness_30 rfl rfl ?_
        refine g_iload_n (pl := 0) C dX9_readsLikeness_31 rfl rfl ?_
        obtain ⟨z13, e_z13, hs⟩ := vb_ok hs
        refine g_callS (ws' := [oX9 h a_post a_read a_now a_aside a_past f_undos a_kept f_keptMany a_sights f_sightMany a_text f_size f_at f_value a_weights a_tried f_above f_below f_paid a_row a_who a_order a_bestOrder a_costs a_taken, aI cI a_read 52 f_read, aI cI a_text 200 f_text]) (rest := []) (st' := [.int z13]) C mX9_120 q5_6 [.int y_1, .int y11] (fun l D => cX9_has_ct l D cI y_1 y11 e_z13) ⟨⟨rfl, rfl⟩, Nat.le_of_ble_eq_true rfl, Nat.le_of_ble_eq_true rfl⟩ rfl [] rfl rfl rfl rfl rfl (Nat.le_of_ble_eq_true rfl) (Nat.zero_le _) (Nat.zero_le _) rfl dX9_readsLikeness_32 ?_
        refine g_if_eq (tgt := 40) C dX9_readsLikeness_35 (by decide) (fun c14 => ?_) (fun c14 => ?_)
        · replace hs := vi_t hs c14
          refine g_iload_n (pl := 2) C dX9_readsLikeness_40 rfl rfl ?_
          refine g_iconst (v := (nI 1)) C dX9_readsLikeness_41 rfl ?_
          refine g_iload_n (pl := 0) C dX9_readsLikeness_42 rfl rfl ?_
          refine g_ishl C dX9_readsLikeness_43 ?_
          refine g_ior C dX9_readsLikeness_44 ?_
          obtain ⟨y15, e_y15, hs⟩ := vlet_ex hs
          refine g_topi e_y15 ?_
          refine g_istore_n (lv' := [(1, .int y15), (2, .int y11), (0, .ref h)]) C dX9_readsLikeness_45 rfl (by decide) rfl ?_
          refine g_aload_n (pl := 2) C dX9_readsLikeness_46 rfl rfl ?_
          refine g_dup C dX9_readsLikeness_47 rfl ?_
          refine g_get C fX9_89 0 rfl rfl dX9_readsLikeness_48 ?_
          refine g_iconst (v := (nI 1)) C dX9_readsLikeness_51 rfl ?_
          refine g_iadd C dX9_readsLikeness_52 ?_
          obtain ⟨y16, e_y16, hs⟩ := vlet_ex hs
          refine g_topi e_y16 ?_
          refine g_putI (ws' := [oX9 h a_post a_read a_now a_aside a_past f_undos a_kept f_keptMany a_sights f_sightMany a_text f_size y16 f_value a_weights a_tried f_above f_below f_paid a_row a_who a_order a_bestOrder a_costs a_taken, aI cI a_read 52 f_read, aI cI a_text 200 f_text]) C fX9_89 0 rfl (Nat.le_of_ble_eq_true rfl) rfl dX9_readsLikeness_53 ?_
          refine g_goto (tgt := 2) C dX9_readsLikeness_56 (by decide) ?_
          refine g_sub [2, 0] rfl ?_
          exact ih y15 y16 hs
        · replace hs := vi_f hs c14
          refine g_iconst (v := (nI 0)) C dX9_readsLikeness_38 rfl ?_
          cases hs
          exact hR _ _ (Or.inl rfl) dX9_readsLikeness_39
set_option maxHeartbeats 4000000 in
set_option maxRecDepth 100000 in
theorem cX9_readsLikeness_ct (l : Launch) (D : va_G) (cI : ClassId) (h : Nat) (a_post : Nat) (a_read : Nat) (a_now : Nat) (a_aside : Nat) (a_past : Nat) (a_kept : Nat) (a_sights : Nat) (a_text : Nat) (a_weights : Nat) (a_tried : Nat) (a_row : Nat) (a_who : Nat) (a_order : Nat) (a_bestOrder : Nat) (a_costs : Nat) (a_taken : Nat) (f_undos : Int32) (f_keptMany : Int32) (f_sightMany : Int32) (f_size : Int32) (f_at : Int32) (f_value : Int32) (f_above : Int64) (f_below : Int64) (f_paid : Int32) (f_read : Nat → Int32) (f_text : Nat → Int32) {z : Int32 × (Nat → Int32) × Int32} (hs : sX9_readsLikeness f_read f_text f_size f_at = some z) : ct l yX9_readsLikeness (.code yX9_readsLikeness cX9_readsLikeness 3 (some .boolean) :: gtb) rmX9_readsLikeness D cI [.ref h] [oX9 h a_post a_read a_now a_aside a_past f_undos a_kept f_keptMany a_sights f_sightMany a_text f_size f_at f_value a_weights a_tried f_above f_below f_paid a_row a_who a_order a_bestOrder a_costs a_taken, aI cI a_read 52 f_read, aI cI a_text 200 f_text] (some (.int z.1)) [oX9 h a_post a_read a_now a_aside a_past f_undos a_kept f_keptMany a_sights f_sightMany a_text f_size z.2.2 f_value a_weights a_tried f_above f_below f_paid a_row a_who a_order a_bestOrder a_costs a_taken, aI cI a_read 52 z.2.1, aI cI a_text 200 f_text] := by
  refine ct_ofZ (own := RX9) (by decide +kernel) rfl (Nat.le_of_ble_eq_true rfl) (fun X C hD hR => ?_)
  unfold sX9_readsLikeness at hs
  show gg cI X 3 0 0 [oX9 h a_post a_read a_now a_aside a_past f_undos a_kept f_keptMany a_sights f_sightMany a_text f_size f_at f_value a_weights a_tried f_above f_below f_paid a_row a_who a_order a_bestOrder a_costs a_taken, aI cI a_read 52 f_read, aI cI a_text 200 f_text] [(0, .ref h)] 0 []
  refine g_iconst (v := (nI 0)) C dX9_readsLikeness_0 rfl ?_
  refine g_istore_n (lv' := [(1, .int (nI 0)), (0, .ref h)]) C dX9_readsLikeness_1 rfl (by decide) rfl ?_
  refine g_sub [1, 0] rfl ?_
  exact LX9_readsLikeness_2_w C h a_post a_read a_now a_aside a_past a_kept a_sights a_text a_weights a_tried a_row a_who a_order a_bestOrder a_costs a_taken f_undos f_keptMany f_sightMany f_size f_value f_above f_below f_paid f_read f_text hR _ (nI 0) f_at hs
def sX9_readsActor (f_read : Nat → Int32) (f_text : Nat → Int32) (f_size : Int32) (f_at : Int32) (f_value : Int32) : Option (Int32 × (Nat → Int32) × Int32 × Int32) :=
  vi ((f_read (Int32.toNatClampNeg (nI 2))) = (nI 5)) inferInstance (
    some ((nI 0), f_read, f_at, f_value)) (
    vb (sX9_number f_text f_size f_at f_value (nI 0) (nI 3)) fun z2 =>
    vi (z2.1 = 0) inferInstance (
      some ((nI 0), f_read, z2.2.1, z2.2.2)) (
      vb (sX9_takes f_text f_size z2.2.1 (nI 44)) fun z4 =>
      vi (z4.1 = 0) inferInstance (
        some ((nI 0), f_read, z4.2, z2.2.2)) (
        vb (sX9_number f_text f_size z4.2 z2.2.2 (nI 0) ((f_read (Int32.toNatClampNeg (nI 0))) - (nI 1))) fun z6 =>
        vi (z6.1 = 0) inferInstance (
          some ((nI 0), f_read, z6.2.1, z6.2.2)) (
          vb (sX9_takes f_text f_size z6.2.1 (nI 44)) fun z8 =>
          vi (z8.1 = 0) inferInstance (
            some ((nI 0), f_read, z8.2, z6.2.2)) (
            vb (sX9_number f_text f_size z8.2 z6.2.2 (nI 0) (nI 99)) fun z10 =>
            vi (z10.1 = 0) inferInstance (
              some ((nI 0), f_read, z10.2.1, z10.2.2)) (
              vb (sX9_actor f_read z2.2.2 z6.2.2 z10.2.2) fun z12 =>
              some ((nI 1), z12, z10.2.1, z10.2.2)))))))
abbrev rmX9_readsActor : Room := { frames := 3, cells := 0, slots := 0, locals := 67 }
set_option maxHeartbeats 4000000 in
set_option maxRecDepth 100000 in
theorem cX9_readsActor_ct (l : Launch) (D : va_G) (cI : ClassId) (h : Nat) (a_post : Nat) (a_read : Nat) (a_now : Nat) (a_aside : Nat) (a_past : Nat) (a_kept : Nat) (a_sights : Nat) (a_text : Nat) (a_weights : Nat) (a_tried : Nat) (a_row : Nat) (a_who : Nat) (a_order : Nat) (a_bestOrder : Nat) (a_costs : Nat) (a_taken : Nat) (f_undos : Int32) (f_keptMany : Int32) (f_sightMany : Int32) (f_size : Int32) (f_at : Int32) (f_value : Int32) (f_above : Int64) (f_below : Int64) (f_paid : Int32) (f_read : Nat → Int32) (f_text : Nat → Int32) {z : Int32 × (Nat → Int32) × Int32 × Int32} (hs : sX9_readsActor f_read f_text f_size f_at f_value = some z) : ct l yX9_readsActor (.code yX9_readsActor cX9_readsActor 3 (some .boolean) :: gtb) rmX9_readsActor D cI [.ref h] [oX9 h a_post a_read a_now a_aside a_past f_undos a_kept f_keptMany a_sights f_sightMany a_text f_size f_at f_value a_weights a_tried f_above f_below f_paid a_row a_who a_order a_bestOrder a_costs a_taken, aI cI a_read 52 f_read, aI cI a_text 200 f_text] (some (.int z.1)) [oX9 h a_post a_read a_now a_aside a_past f_undos a_kept f_keptMany a_sights f_sightMany a_text f_size z.2.2.1 z.2.2.2 a_weights a_tried f_above f_below f_paid a_row a_who a_order a_bestOrder a_costs a_taken, aI cI a_read 52 z.2.1, aI cI a_text 200 f_text] := by
  refine ct_ofZ (own := RX9) (by decide +kernel) rfl (Nat.le_of_ble_eq_true rfl) (fun X C hD hR => ?_)
  unfold sX9_readsActor at hs
  show gg cI X 3 0 0 [oX9 h a_post a_read a_now a_aside a_past f_undos a_kept f_keptMany a_sights f_sightMany a_text f_size f_at f_value a_weights a_tried f_above f_below f_paid a_row a_who a_order a_bestOrder a_costs a_taken, aI cI a_read 52 f_read, aI cI a_text 200 f_text] [(0, .ref h)] 0 []
  refine g_aload_n (pl := 0) C dX9_readsActor_0 rfl rfl ?_
  refine g_get C fX9_13 0 rfl rfl dX9_readsActor_1 ?_
  refine g_iconst (v := (nI 2)) C dX9_readsActor_4 rfl ?_
  refine g_iald C 1 rfl (vin_ok rfl) dX9_readsActor_5 ?_
  refine g_iconst (v := (nI 5)) C dX9_readsActor_6 rfl ?_
  refine g_icmp_eq (tgt := 28) C dX9_readsActor_7 (by decide) (fun c1 => ?_) (fun c1 => ?_)
  · replace hs := vi_t hs c1
    refine g_iconst (v := (nI 0)) C dX9_readsActor_28 rfl ?_
    cases hs
    exact hR _ _ (Or.inl rfl) dX9_readsActor_29
  · replace hs := vi_f hs c1
    refine g_aload_n (pl := 0) C dX9_readsActor_10 rfl rfl ?_
    refine g_iconst (v := (nI 0)) C dX9_readsActor_11 rfl ?_
    refine g_iconst (v := (nI 3)) C dX9_readsActor_12 rfl ?_
    obtain ⟨z2, e_z2, hs⟩ := vb_ok hs
    refine g_callV (ws' := [oX9 h a_post a_read a_now a_aside a_past f_undos a_kept f_keptMany a_sights f_sightMany a_text f_size z2.2.1 z2.2.2 a_weights a_tried f_above f_below f_paid a_row a_who a_order a_bestOrder a_costs a_taken, aI cI a_read 52 f_read, aI cI a_text 200 f_text]) (rest := []) (st' := [.int z2.1]) C mX9_107 q4_227 [.int (nI 0), .int (nI 3)] (fun l D => cX9_number_ct l D cI h a_post a_read a_now a_aside a_past a_kept a_sights a_text a_weights a_tried a_row a_who a_order a_bestOrder a_costs a_taken f_undos f_keptMany f_sightMany f_size f_at f_value f_above f_below f_paid f_text (nI 0) (nI 3) e_z2) ⟨⟨rfl, rfl⟩, Nat.le_of_ble_eq_true rfl, Nat.le_of_ble_eq_true rfl⟩ 0 rfl rfl rfl [0, 2] rfl rfl rfl rfl rfl (Nat.le_of_ble_eq_true rfl) (Nat.zero_le _) (Nat.zero_le _) rfl dX9_readsActor_13 ?_
    refine g_if_eq (tgt := 28) C dX9_readsActor_16 (by decide) (fun c3 => ?_) (fun c3 => ?_)
    · replace hs := vi_t hs c3
      refine g_iconst (v := (nI 0)) C dX9_readsActor_28 rfl ?_
      cases hs
      exact hR _ _ (Or.inl rfl) dX9_readsActor_29
    · replace hs := vi_f hs c3
      refine g_aload_n (pl := 0) C dX9_readsActor_19 rfl rfl ?_
      refine g_bipush (v := (nI 44)) C dX9_readsActor_20 rfl ?_
      obtain ⟨z4, e_z4, hs⟩ := vb_ok hs
      refine g_callV (ws' := [oX9 h a_post a_read a_now a_aside a_past f_undos a_kept f_keptMany a_sights f_sightMany a_text f_size z4.2 z2.2.2 a_weights a_tried f_above f_below f_paid a_row a_who a_order a_bestOrder a_costs a_taken, aI cI a_read 52 f_read, aI cI a_text 200 f_text]) (rest := []) (st' := [.int z4.1]) C mX9_111 q4_236 [.int (nI 44)] (fun l D => cX9_takes_ct l D cI h a_post a_read a_now a_aside a_past a_kept a_sights a_text a_weights a_tried a_row a_who a_order a_bestOrder a_costs a_taken f_undos f_keptMany f_sightMany f_size z2.2.1 z2.2.2 f_above f_below f_paid f_text (nI 44) e_z4) ⟨⟨rfl, rfl⟩, Nat.le_of_ble_eq_true rfl, Nat.le_of_ble_eq_true rfl⟩ 0 rfl rfl rfl [0, 2] rfl rfl rfl rfl rfl (Nat.le_of_ble_eq_true rfl) (Nat.zero_le _) (Nat.zero_le _) rfl dX9_readsActor_22 ?_
      refine g_if_ne (tgt := 30) C dX9_readsActor_25 (by decide) (fun c5 => ?_) (fun c5 => ?_)
      · replace hs := vi_f hs c5
        refine g_aload_n (pl := 0) C dX9_readsActor_30 rfl rfl ?_
        refine g_get C fX9_104 0 rfl rfl dX9_readsActor_31 ?_
        refine g_istore_n (lv' := [(1, .int z2.2.2), (0, .ref h)]) C dX9_readsActor_34 rfl (by decide) rfl ?_
        refine g_aload_n (pl := 1) C dX9_readsActor_35 rfl rfl ?_
        refine g_iconst (v := (nI 0)) C dX9_readsActor_36 rfl ?_
        refine g_aload_n (pl := 1) C dX9_readsActor_37 rfl rfl ?_
        refine g_get C fX9_13 0 rfl rfl dX9_readsActor_38 ?_
        refine g_iconst (v := (nI 0)) C dX9_readsActor_41 rfl ?_
        refine g_iald C 1 rfl (vin_ok rfl) dX9_readsActor_42 ?_
        refine g_iconst (v := (nI 1)) C dX9_readsActor_43 rfl ?_
        refine g_isub C dX9_readsActor_44 ?_
        obtain ⟨z6, e_z6, hs⟩ := vb_ok hs
        refine g_callV (ws' := [oX9 h a_post a_read a_now a_aside a_past f_undos a_kept f_keptMany a_sights f_sightMany a_text f_size z6.2.1 z6.2.2 a_weights a_tried f_above f_below f_paid a_row a_who a_order a_bestOrder a_costs a_taken, aI cI a_read 52 f_read, aI cI a_text 200 f_text]) (rest := []) (st' := [.int z6.1]) C mX9_107 q4_227 [.int (nI 0), .int ((f_read (Int32.toNatClampNeg (nI 0))) - (nI 1))] (fun l D => cX9_number_ct l D cI h a_post a_read a_now a_aside a_past a_kept a_sights a_text a_weights a_tried a_row a_who a_order a_bestOrder a_costs a_taken f_undos f_keptMany f_sightMany f_size z4.2 z2.2.2 f_above f_below f_paid f_text (nI 0) ((f_read (Int32.toNatClampNeg (nI 0))) - (nI 1)) e_z6) ⟨⟨rfl, rfl⟩, Nat.le_of_ble_eq_true rfl, Nat.le_of_ble_eq_true rfl⟩ 0 rfl rfl rfl [0, 2] rfl rfl rfl rfl rfl (Nat.le_of_ble_eq_true rfl) (Nat.zero_le _) (Nat.zero_le _) rfl dX9_readsActor_45 ?_
        refine g_if_eq (tgt := 60) C dX9_readsActor_48 (by decide) (fun c7 => ?_) (fun c7 => ?_)
        · replace hs := vi_t hs c7
          refine g_iconst (v := (nI 0)) C dX9_readsActor_60 rfl ?_
          cases hs
          exact hR _ _ (Or.inl rfl) dX9_readsActor_61
        · replace hs := vi_f hs c7
          refine g_aload_n (pl := 1) C dX9_readsActor_51 rfl rfl ?_
          refine g_bipush (v := (nI 44)) C dX9_readsActor_52 rfl ?_
          obtain ⟨z8, e_z8, hs⟩ := vb_ok hs
          refine g_callV (ws' := [oX9 h a_post a_read a_now a_aside a_past f_undos a_kept f_keptMany a_sights f_sightMany a_text f_size z8.2 z6.2.2 a_weights a_tried f_above f_below f_paid a_row a_who a_order a_bestOrder a_costs a_taken, aI cI a_read 52 f_read, aI cI a_text 200 f_text]) (rest := []) (st' := [.int z8.1]) C mX9_111 q4_236 [.int (nI 44)] (fun l D => cX9_takes_ct l D cI h a_post a_read a_now a_aside a_past a_kept a_sights a_text a_weights a_tried a_row a_who a_order a_bestOrder a_costs a_taken f_undos f_keptMany f_sightMany f_size z6.2.1 z6.2.2 f_above f_below f_paid f_text (nI 44) e_z8) ⟨⟨rfl, rfl⟩, Nat.le_of_ble_eq_true rfl, Nat.le_of_ble_eq_true rfl⟩ 0 rfl rfl rfl [0, 2] rfl rfl rfl rfl rfl (Nat.le_of_ble_eq_true rfl) (Nat.zero_le _) (Nat.zero_le _) rfl dX9_readsActor_54 ?_
          refine g_if_ne (tgt := 62) C dX9_readsActor_57 (by decide) (fun c9 => ?_) (fun c9 => ?_)
          · replace hs := vi_f hs c9
            refine g_aload_n (pl := 1) C dX9_readsActor_62 rfl rfl ?_
            refine g_get C fX9_104 0 rfl rfl dX9_readsActor_63 ?_
            refine g_istore_n (lv' := [(2, .int z6.2.2), (1, .int z2.2.2), (0, .ref h)]) C dX9_readsActor_66 rfl (by decide) rfl ?_
            refine g_aload_n (pl := 2) C dX9_readsActor_67 rfl rfl ?_
            refine g_iconst (v := (nI 0)) C dX9_readsActor_68 rfl ?_
            refine g_bipush (v := (nI 99)) C dX9_readsActor_69 rfl ?_
            obtain ⟨z10, e_z10, hs⟩ := vb_ok hs
            refine g_callV (ws' := [oX9 h a_post a_read a_now a_aside a_past f_undos a_kept f_keptMany a_sights f_sightMany a_text f_size z10.2.1 z10.2.2 a_weights a_tried f_above f_below f_paid a_row a_who a_order a_bestOrder a_costs a_taken, aI cI a_read 52 f_read, aI cI a_text 200 f_text]) (rest := []) (st' := [.int z10.1]) C mX9_107 q4_227 [.int (nI 0), .int (nI 99)] (fun l D => cX9_number_ct l D cI h a_post a_read a_now a_aside a_past a_kept a_sights a_text a_weights a_tried a_row a_who a_order a_bestOrder a_costs a_taken f_undos f_keptMany f_sightMany f_size z8.2 z6.2.2 f_above f_below f_paid f_text (nI 0) (nI 99) e_z10) ⟨⟨rfl, rfl⟩, Nat.le_of_ble_eq_true rfl, Nat.le_of_ble_eq_true rfl⟩ 0 rfl rfl rfl [0, 2] rfl rfl rfl rfl rfl (Nat.le_of_ble_eq_true rfl) (Nat.zero_le _) (Nat.zero_le _) rfl dX9_readsActor_71 ?_
            refine g_if_ne (tgt := 79) C dX9_readsActor_74 (by decide) (fun c11 => ?_) (fun c11 => ?_)
            · replace hs := vi_f hs c11
              refine g_aload_n (pl := 2) C dX9_readsActor_79 rfl rfl ?_
              refine g_get C fX9_13 0 rfl rfl dX9_readsActor_80 ?_
              refine g_iload_n (pl := 1) C dX9_readsActor_83 rfl rfl ?_
              refine g_iload_n (pl := 0) C dX9_readsActor_84 rfl rfl ?_
              refine g_aload_n (pl := 2) C dX9_readsActor_85 rfl rfl ?_
              refine g_get C fX9_104 0 rfl rfl dX9_readsActor_86 ?_
              obtain ⟨z12, e_z12, hs⟩ := vb_ok hs
              refine g_callS (ws' := [oX9 h a_post a_read a_now a_aside a_past f_undos a_kept f_keptMany a_sights f_sightMany a_text f_size z10.2.1 z10.2.2 a_weights a_tried f_above f_below f_paid a_row a_who a_order a_bestOrder a_costs a_taken, aI cI a_read 52 z12, aI cI a_text 200 f_text]) (rest := []) (st' := []) C mX9_62 q4_110 [.ref a_read, .int z2.2.2, .int z6.2.2, .int z10.2.2] (fun l D => cX9_actor_ct l D cI a_read f_read z2.2.2 z6.2.2 z10.2.2 e_z12) ⟨⟨rfl, rfl⟩, Nat.le_of_ble_eq_true rfl, Nat.le_of_ble_eq_true rfl⟩ rfl [1] rfl rfl rfl rfl rfl (Nat.le_of_ble_eq_true rfl) (Nat.zero_le _) (Nat.zero_le _) rfl dX9_readsActor_89 ?_
              refine g_iconst (v := (nI 1)) C dX9_readsActor_92 rfl ?_
              cases hs
              exact hR _ _ (Or.inr rfl) dX9_readsActor_93
            · replace hs := vi_t hs c11
              refine g_iconst (v := (nI 0)) C dX9_readsActor_77 rfl ?_
              cases hs
              exact hR _ _ (Or.inl rfl) dX9_readsActor_78
          · replace hs := vi_t hs c9
            refine g_iconst (v := (nI 0)) C dX9_readsActor_60 rfl ?_
            cases hs
            exact hR _ _ (Or.inl rfl) dX9_readsActor_61
      · replace hs := vi_t hs c5
        refine g_iconst (v := (nI 0)) C dX9_readsActor_28 rfl ?_
        cases hs
        exact hR _ _ (Or.inl rfl) dX9_readsActor_29
def sX9_readsBarred (f_read : Nat → Int32) (f_text : Nat → Int32) (f_size : Int32) (f_at : Int32) (f_value : Int32) : Option (Int32 × (Nat → Int32) × Int32 × Int32) :=
  vb (sX9_number f_text f_size f_at f_value (nI 0) (nI 14)) fun z1 =>
  vi (z1.1 = 0) inferInstance (
    some ((nI 0), f_read, z1.2.1, z1.2.2)) (
    vlet ((f_read (Int32.toNatClampNeg (nI 3))) ||| ((nI 1) <<< (z1.2.2 &&& 31))) fun y3 =>
    vlet (upd f_read (Int32.toNatClampNeg (nI 3)) y3) fun u4 =>
    some ((nI 1), u4, z1.2.1, z1.2.2))
abbrev rmX9_readsBarred : Room := { frames := 3, cells := 0, slots := 0, locals := 67 }
set_option maxHeartbeats 4000000 in
set_option maxRecDepth 100000 in
theorem cX9_readsBarred_ct (l : Launch) (D : va_G) (cI : ClassId) (h : Nat) (a_post : Nat) (a_read : Nat) (a_now : Nat) (a_aside : Nat) (a_past : Nat) (a_kept : Nat) (a_sights : Nat) (a_text : Nat) (a_weights : Nat) (a_tried : Nat) (a_row : Nat) (a_who : Nat) (a_order : Nat) (a_bestOrder : Nat) (a_costs : Nat) (a_taken : Nat) (f_undos : Int32) (f_keptMany : Int32) (f_sightMany : Int32) (f_size : Int32) (f_at : Int32) (f_value : Int32) (f_above : Int64) (f_below : Int64) (f_paid : Int32) (f_read : Nat → Int32) (f_text : Nat → Int32) {z : Int32 × (Nat → Int32) × Int32 × Int32} (hs : sX9_readsBarred f_read f_text f_size f_at f_value = some z) : ct l yX9_readsBarred (.code yX9_readsBarred cX9_readsBarred 1 (some .boolean) :: gtb) rmX9_readsBarred D cI [.ref h] [oX9 h a_post a_read a_now a_aside a_past f_undos a_kept f_keptMany a_sights f_sightMany a_text f_size f_at f_value a_weights a_tried f_above f_below f_paid a_row a_who a_order a_bestOrder a_costs a_taken, aI cI a_read 52 f_read, aI cI a_text 200 f_text] (some (.int z.1)) [oX9 h a_post a_read a_now a_aside a_past f_undos a_kept f_keptMany a_sights f_sightMany a_text f_size z.2.2.1 z.2.2.2 a_weights a_tried f_above f_below f_paid a_row a_who a_order a_bestOrder a_costs a_taken, aI cI a_read 52 z.2.1, aI cI a_text 200 f_text] := by
  refine ct_ofZ (own := RX9) (by decide +kernel) rfl (Nat.le_of_ble_eq_true rfl) (fun X C hD hR => ?_)
  unfold sX9_readsBarred at hs
  show gg cI X 1 0 0 [oX9 h a_post a_read a_now a_aside a_past f_undos a_kept f_keptMany a_sights f_sightMany a_text f_size f_at f_value a_weights a_tried f_above f_below f_paid a_row a_who a_order a_bestOrder a_costs a_taken, aI cI a_read 52 f_read, aI cI a_text 200 f_text] [(0, .ref h)] 0 []
  refine g_aload_n (pl := 0) C dX9_readsBarred_0 rfl rfl ?_
  refine g_iconst (v := (nI 0)) C dX9_readsBarred_1 rfl ?_
  refine g_bipush (v := (nI 14)) C dX9_readsBarred_2 rfl ?_
  obtain ⟨z1, e_z1, hs⟩ := vb_ok hs
  refine g_callV (ws' := [oX9 h a_post a_read a_now a_aside a_past f_undos a_kept f_keptMany a_sights f_sightMany a_text f_size z1.2.1 z1.2.2 a_weights a_tried f_above f_below f_paid a_row a_who a_order a_bestOrder a_costs a_taken, aI cI a_read 52 f_read, aI cI a_text 200 f_text]) (rest := []) (st' := [.int z1.1]) C mX9_107 q4_227 [.int (nI 0), .int (nI 14)] (fun l D => cX9_number_ct l D cI h a_post a_read a_now a_aside a_past a_kept a_sights a_text a_weights a_tried a_row a_who a_order a_bestOrder a_costs a_taken f_undos f_keptMany f_sightMany f_size f_at f_value f_above f_below f_paid f_text (nI 0) (nI 14) e_z1) ⟨⟨rfl, rfl⟩, Nat.le_of_ble_eq_true rfl, Nat.le_of_ble_eq_true rfl⟩ 0 rfl rfl rfl [0, 2] rfl rfl rfl rfl rfl (Nat.le_of_ble_eq_true rfl) (Nat.zero_le _) (Nat.zero_le _) rfl dX9_readsBarred_4 ?_
  refine g_if_ne (tgt := 12) C dX9_readsBarred_7 (by decide) (fun c2 => ?_) (fun c2 => ?_)
  · replace hs := vi_f hs c2
    refine g_aload_n (pl := 0) C dX9_readsBarred_12 rfl rfl ?_
    refine g_get C fX9_13 0 rfl rfl dX9_readsBarred_13 ?_
    refine g_iconst (v := (nI 3)) C dX9_readsBarred_16 rfl ?_
    refine g_dup2 C dX9_readsBarred_17 rfl rfl ?_
    refine g_iald C 1 rfl (vin_ok rfl) dX9_readsBarred_18 ?_
    refine g_iconst (v := (nI 1)) C dX9_readsBarred_19 rfl ?_
    refine g_aload_n (pl := 0) C dX9_readsBarred_20 rfl rfl ?_
    refine g_get C fX9_104 0 rfl rfl dX9_readsBarred_21 ?_
    refine g_ishl C dX9_readsBarred_24 ?_
    refine g_ior C dX9_readsBarred_25 ?_
    obtain ⟨y3, e_y3, hs⟩ := vlet_ex hs
    refine g_topi e_y3 ?_
    obtain ⟨u4, e_u4, hs⟩ := vlet_ex hs
    refine g_iast (ws' := [oX9 h a_post a_read a_now a_aside a_past f_undos a_kept f_keptMany a_sights f_sightMany a_text f_size z1.2.1 z1.2.2 a_weights a_tried f_above f_below f_paid a_row a_who a_order a_bestOrder a_costs a_taken, aI cI a_read 52 u4, aI cI a_text 200 f_text]) C 1 rfl (vin_ok rfl) (by rw [e_u4]; rfl) dX9_readsBarred_26 ?_
    refine g_iconst (v := (nI 1)) C dX9_readsBarred_27 rfl ?_
    cases hs
    exact hR _ _ (Or.inr rfl) dX9_readsBarred_28
  · replace hs := vi_t hs c2
    refine g_iconst (v := (nI 0)) C dX9_readsBarred_10 rfl ?_
    cases hs
    exact hR _ _ (Or.inl rfl) dX9_readsBarred_11
def sX9_readsHabits (f_read : Nat → Int32) (f_text : Nat → Int32) (f_size : Int32) (f_at : Int32) (f_value : Int32) : Option (Int32 × (Nat → Int32) × Int32 × Int32) :=
  vb (sX9_number f_text f_size f_at f_value (nI 2) (nI 5)) fun z1 =>
  vi (z1.1 = 0) inferInstance (
    some ((nI 0), f_read, z1.2.1, z1.2.2)) (
    vb (sX9_takes f_text f_size z1.2.1 (nI 44)) fun z3 =>
    vi (z3.1 = 0) inferInstance (
      some ((nI 0), f_read, z3.2, z1.2.2)) (
      vlet (upd f_read (Int32.toNatClampNeg (nI 4)) z1.2.2) fun u5 =>
      vb (sX9_number f_text f_size z3.2 z1.2.2 (nI 1) (nI 4)) fun z6 =>
      vi (z6.1 = 0) inferInstance (
        some ((nI 0), u5, z6.2.1, z6.2.2)) (
        vlet (upd u5 (Int32.toNatClampNeg (nI 5)) z6.2.2) fun u8 =>
        some ((nI 1), u8, z6.2.1, z6.2.2))))
abbrev rmX9_readsHabits : Room := { frames := 3, cells := 0, slots := 0, locals := 67 }
set_option maxHeartbeats 4000000 in
set_option maxRecDepth 100000 in
theorem cX9_readsHabits_ct (l : Launch) (D : va_G) (cI : ClassId) (h : Nat) (a_post : Nat) (a_read : Nat) (a_now : Nat) (a_aside : Nat) (a_past : Nat) (a_kept : Nat) (a_sights : Nat) (a_text : Nat) (a_weights : Nat) (a_tried : Nat) (a_row : Nat) (a_who : Nat) (a_order : Nat) (a_bestOrder : Nat) (a_costs : Nat) (a_taken : Nat) (f_undos : Int32) (f_keptMany : Int32) (f_sightMany : Int32) (f_size : Int32) (f_at : Int32) (f_value : Int32) (f_above : Int64) (f_below : Int64) (f_paid : Int32) (f_read : Nat → Int32) (f_text : Nat → Int32) {z : Int32 × (Nat → Int32) × Int32 × Int32} (hs : sX9_readsHabits f_read f_text f_size f_at f_value = some z) : ct l yX9_readsHabits (.code yX9_readsHabits cX9_readsHabits 1 (some .boolean) :: gtb) rmX9_readsHabits D cI [.ref h] [oX9 h a_post a_read a_now a_aside a_past f_undos a_kept f_keptMany a_sights f_sightMany a_text f_size f_at f_value a_weights a_tried f_above f_below f_paid a_row a_who a_order a_bestOrder a_costs a_taken, aI cI a_read 52 f_read, aI cI a_text 200 f_text] (some (.int z.1)) [oX9 h a_post a_read a_now a_aside a_past f_undos a_kept f_keptMany a_sights f_sightMany a_text f_size z.2.2.1 z.2.2.2 a_weights a_tried f_above f_below f_paid a_row a_who a_order a_bestOrder a_costs a_taken, aI cI a_read 52 z.2.1, aI cI a_text 200 f_text] := by
  refine ct_ofZ (own := RX9) (by decide +kernel) rfl (Nat.le_of_ble_eq_true rfl) (fun X C hD hR => ?_)
  unfold sX9_readsHabits at hs
  show gg cI X 1 0 0 [oX9 h a_post a_read a_now a_aside a_past f_undos a_kept f_keptMany a_sights f_sightMany a_text f_size f_at f_value a_weights a_tried f_above f_below f_paid a_row a_who a_order a_bestOrder a_costs a_taken, aI cI a_read 52 f_read, aI cI a_text 200 f_text] [(0, .ref h)] 0 []
  refine g_aload_n (pl := 0) C dX9_readsHabits_0 rfl rfl ?_
  refine g_iconst (v := (nI 2)) C dX9_readsHabits_1 rfl ?_
  refine g_iconst (v := (nI 5)) C dX9_readsHabits_2 rfl ?_
  obtain ⟨z1, e_z1, hs⟩ := vb_ok hs
  refine g_callV (ws' := [oX9 h a_post a_read a_now a_aside a_past f_undos a_kept f_keptMany a_sights f_sightMany a_text f_size z1.2.1 z1.2.2 a_weights a_tried f_above f_below f_paid a_row a_who a_order a_bestOrder a_costs a_taken, aI cI a_read 52 f_read, aI cI a_text 200 f_text]) (rest := []) (st' := [.int z1.1]) C mX9_107 q4_227 [.int (nI 2), .int (nI 5)] (fun l D => cX9_number_ct l D cI h a_post a_read a_now a_aside a_past a_kept a_sights a_text a_weights a_tried a_row a_who a_order a_bestOrder a_costs a_taken f_undos f_keptMany f_sightMany f_size f_at f_value f_above f_below f_paid f_text (nI 2) (nI 5) e_z1) ⟨⟨rfl, rfl⟩, Nat.le_of_ble_eq_true rfl, Nat.le_of_ble_eq_true rfl⟩ 0 rfl rfl rfl [0, 2] rfl rfl rfl rfl rfl (Nat.le_of_ble_eq_true rfl) (Nat.zero_le _) (Nat.zero_le _) rfl dX9_readsHabits_3 ?_
  refine g_if_eq (tgt := 18) C dX9_readsHabits_6 (by decide) (fun c2 => ?_) (fun c2 => ?_)
  · replace hs := vi_t hs c2
    refine g_iconst (v := (nI 0)) C dX9_readsHabits_18 rfl ?_
    cases hs
    exact hR _ _ (Or.inl rfl) dX9_readsHabits_19
  · replace hs := vi_f hs c2
    refine g_aload_n (pl := 0) C dX9_readsHabits_9 rfl rfl ?_
    refine g_bipush (v := (nI 44)) C dX9_readsHabits_10 rfl ?_
    obtain ⟨z3, e_z3, hs⟩ := vb_ok hs
    refine g_callV (ws' := [oX9 h a_post a_read a_now a_aside a_past f_undos a_kept f_keptMany a_sights f_sightMany a_text f_size z3.2 z1.2.2 a_weights a_tried f_above f_below f_paid a_row a_who a_order a_bestOrder a_costs a_taken, aI cI a_read 52 f_read, aI cI a_text 200 f_text]) (rest := []) (st' := [.int z3.1]) C mX9_111 q4_236 [.int (nI 44)] (fun l D => cX9_takes_ct l D cI h a_post a_read a_now a_aside a_past a_kept a_sights a_text a_weights a_tried a_row a_who a_order a_bestOrder a_costs a_taken f_undos f_keptMany f_sightMany f_size z1.2.1 z1.2.2 f_above f_below f_paid f_text (nI 44) e_z3) ⟨⟨rfl, rfl⟩, Nat.le_of_ble_eq_true rfl, Nat.le_of_ble_eq_true rfl⟩ 0 rfl rfl rfl [0, 2] rfl rfl rfl rfl rfl (Nat.le_of_ble_eq_true rfl) (Nat.zero_le _) (Nat.zero_le _) rfl dX9_readsHabits_12 ?_
    refine g_if_ne (tgt := 20) C dX9_readsHabits_15 (by decide) (fun c4 => ?_) (fun c4 => ?_)
    · replace hs := vi_f hs c4
      refine g_aload_n (pl := 0) C dX9_readsHabits_20 rfl rfl ?_
      refine g_get C fX9_13 0 rfl rfl dX9_readsHabits_21 ?_
      refine g_iconst (v := (nI 4)) C dX9_readsHabits_24 rfl ?_
      refine g_aload_n (pl := 0) C dX9_readsHabits_25 rfl rfl ?_
      refine g_get C fX9_104 0 rfl rfl dX9_readsHabits_26 ?_
      obtain ⟨u5, e_u5, hs⟩ := vlet_ex hs
      refine g_iast (ws' := [oX9 h a_post a_read a_now a_aside a_past f_undos a_kept f_keptMany a_sights f_sightMany a_text f_size z3.2 z1.2.2 a_weights a_tried f_above f_below f_paid a_row a_who a_order a_bestOrder a_costs a_taken, aI cI a_read 52 u5, aI cI a_text 200 f_text]) C 1 rfl (vin_ok rfl) (by rw [e_u5]; rfl) dX9_readsHabits_29 ?_
      refine g_aload_n (pl := 0) C dX9_readsHabits_30 rfl rfl ?_
      refine g_iconst (v := (nI 1)) C dX9_readsHabits_31 rfl ?_
      refine g_iconst (v := (nI 4)) C dX9_readsHabits_32 rfl ?_
      obtain ⟨z6, e_z6, hs⟩ := vb_ok hs
      refine g_callV (ws' := [oX9 h a_post a_read a_now a_aside a_past f_undos a_kept f_keptMany a_sights f_sightMany a_text f_size z6.2.1 z6.2.2 a_weights a_tried f_above f_below f_paid a_row a_who a_order a_bestOrder a_costs a_taken, aI cI a_read 52 u5, aI cI a_text 200 f_text]) (rest := []) (st' := [.int z6.1]) C mX9_107 q4_227 [.int (nI 1), .int (nI 4)] (fun l D => cX9_number_ct l D cI h a_post a_read a_now a_aside a_past a_kept a_sights a_text a_weights a_tried a_row a_who a_order a_bestOrder a_costs a_taken f_undos f_keptMany f_sightMany f_size z3.2 z1.2.2 f_above f_below f_paid f_text (nI 1) (nI 4) e_z6) ⟨⟨rfl, rfl⟩, Nat.le_of_ble_eq_true rfl, Nat.le_of_ble_eq_true rfl⟩ 0 rfl rfl rfl [0, 2] rfl rfl rfl rfl rfl (Nat.le_of_ble_eq_true rfl) (Nat.zero_le _) (Nat.zero_le _) rfl dX9_readsHabits_33 ?_
      refine g_if_ne (tgt := 41) C dX9_readsHabits_36 (by decide) (fun c7 => ?_) (fun c7 => ?_)
      · replace hs := vi_f hs c7
        refine g_aload_n (pl := 0) C dX9_readsHabits_41 rfl rfl ?_
        refine g_get C fX9_13 0 rfl rfl dX9_readsHabits_42 ?_
        refine g_iconst (v := (nI 5)) C dX9_readsHabits_45 rfl ?_
        refine g_aload_n (pl := 0) C dX9_readsHabits_46 rfl rfl ?_
        refine g_get C fX9_104 0 rfl rfl dX9_readsHabits_47 ?_
        obtain ⟨u8, e_u8, hs⟩ := vlet_ex hs
        refine g_iast (ws' := [oX9 h a_post a_read a_now a_aside a_past f_undos a_kept f_keptMany a_sights f_sightMany a_text f_size z6.2.1 z6.2.2 a_weights a_tried f_above f_below f_paid a_row a_who a_order a_bestOrder a_costs a_taken, aI cI a_read 52 u8, aI cI a_text 200 f_text]) C 1 rfl (vin_ok rfl) (by rw [e_u8]; rfl) dX9_readsHabits_50 ?_
        refine g_iconst (v := (nI 1)) C dX9_readsHabits_51 rfl ?_
        cases hs
        exact hR _ _ (Or.inr rfl) dX9_readsHabits_52
      · replace hs := vi_t hs c7
        refine g_iconst (v := (nI 0)) C dX9_readsHabits_39 rfl ?_
        cases hs
        exact hR _ _ (Or.inl rfl) dX9_readsHabits_40
    · replace hs := vi_t hs c4
      refine g_iconst (v := (nI 0)) C dX9_readsHabits_18 rfl ?_
      cases hs
      exact hR _ _ (Or.inl rfl) dX9_readsHabits_19
def sX9_readsCost (f_read : Nat → Int32) (f_text : Nat → Int32) (f_size : Int32) (f_at : Int32) (f_value : Int32) : Option (Int32 × (Nat → Int32) × Int32 × Int32) :=
  vb (sX9_number f_text f_size f_at f_value (nI 0) (nI 9)) fun z1 =>
  vi (z1.1 = 0) inferInstance (
    some ((nI 0), f_read, z1.2.1, z1.2.2)) (
    vlet (upd f_read (Int32.toNatClampNeg (nI 6)) z1.2.2) fun u3 =>
    some ((nI 1), u3, z1.2.1, z1.2.2))
abbrev rmX9_readsCost : Room := { frames := 3, cells := 0, slots := 0, locals := 67 }
set_option maxHeartbeats 4000000 in
set_option maxRecDepth 100000 in
theorem cX9_readsCost_ct (l : Launch) (D : va_G) (cI : ClassId) (h : Nat) (a_post : Nat) (a_read : Nat) (a_now : Nat) (a_aside : Nat) (a_past : Nat) (a_kept : Nat) (a_sights : Nat) (a_text : Nat) (a_weights : Nat) (a_tried : Nat) (a_row : Nat) (a_who : Nat) (a_order : Nat) (a_bestOrder : Nat) (a_costs : Nat) (a_taken : Nat) (f_undos : Int32) (f_keptMany : Int32) (f_sightMany : Int32) (f_size : Int32) (f_at : Int32) (f_value : Int32) (f_above : Int64) (f_below : Int64) (f_paid : Int32) (f_read : Nat → Int32) (f_text : Nat → Int32) {z : Int32 × (Nat → Int32) × Int32 × Int32} (hs : sX9_readsCost f_read f_text f_size f_at f_value = some z) : ct l yX9_readsCost (.code yX9_readsCost cX9_readsCost 1 (some .boolean) :: gtb) rmX9_readsCost D cI [.ref h] [oX9 h a_post a_read a_now a_aside a_past f_undos a_kept f_keptMany a_sights f_sightMany a_text f_size f_at f_value a_weights a_tried f_above f_below f_paid a_row a_who a_order a_bestOrder a_costs a_taken, aI cI a_read 52 f_read, aI cI a_text 200 f_text] (some (.int z.1)) [oX9 h a_post a_read a_now a_aside a_past f_undos a_kept f_keptMany a_sights f_sightMany a_text f_size z.2.2.1 z.2.2.2 a_weights a_tried f_above f_below f_paid a_row a_who a_order a_bestOrder a_costs a_taken, aI cI a_read 52 z.2.1, aI cI a_text 200 f_text] := by
  refine ct_ofZ (own := RX9) (by decide +kernel) rfl (Nat.le_of_ble_eq_true rfl) (fun X C hD hR => ?_)
  unfold sX9_readsCost at hs
  show gg cI X 1 0 0 [oX9 h a_post a_read a_now a_aside a_past f_undos a_kept f_keptMany a_sights f_sightMany a_text f_size f_at f_value a_weights a_tried f_above f_below f_paid a_row a_who a_order a_bestOrder a_costs a_taken, aI cI a_read 52 f_read, aI cI a_text 200 f_text] [(0, .ref h)] 0 []
  refine g_aload_n (pl := 0) C dX9_readsCost_0 rfl rfl ?_
  refine g_iconst (v := (nI 0)) C dX9_readsCost_1 rfl ?_
  refine g_bipush (v := (nI 9)) C dX9_readsCost_2 rfl ?_
  obtain ⟨z1, e_z1, hs⟩ := vb_ok hs
  refine g_callV (ws' := [oX9 h a_post a_read a_now a_aside a_past f_undos a_kept f_keptMany a_sights f_sightMany a_text f_size z1.2.1 z1.2.2 a_weights a_tried f_above f_below f_paid a_row a_who a_order a_bestOrder a_costs a_taken, aI cI a_read 52 f_read, aI cI a_text 200 f_text]) (rest := []) (st' := [.int z1.1]) C mX9_107 q4_227 [.int (nI 0), .int (nI 9)] (fun l D => cX9_number_ct l D cI h a_post a_read a_now a_aside a_past a_kept a_sights a_text a_weights a_tried a_row a_who a_order a_bestOrder a_costs a_taken f_undos f_keptMany f_sightMany f_size f_at f_value f_above f_below f_paid f_text (nI 0) (nI 9) e_z1) ⟨⟨rfl, rfl⟩, Nat.le_of_ble_eq_true rfl, Nat.le_of_ble_eq_true rfl⟩ 0 rfl rfl rfl [0, 2] rfl rfl rfl rfl rfl (Nat.le_of_ble_eq_true rfl) (Nat.zero_le _) (Nat.zero_le _) rfl dX9_readsCost_4 ?_
  refine g_if_ne (tgt := 12) C dX9_readsCost_7 (by decide) (fun c2 => ?_) (fun c2 => ?_)
  · replace hs := vi_f hs c2
    refine g_aload_n (pl := 0) C dX9_readsCost_12 rfl rfl ?_
    refine g_get C fX9_13 0 rfl rfl dX9_readsCost_13 ?_
    refine g_bipush (v := (nI 6)) C dX9_readsCost_16 rfl ?_
    refine g_aload_n (pl := 0) C dX9_readsCost_18 rfl rfl ?_
    refine g_get C fX9_104 0 rfl rfl dX9_readsCost_19 ?_
    obtain ⟨u3, e_u3, hs⟩ := vlet_ex hs
    refine g_iast (ws' := [oX9 h a_post a_read a_now a_aside a_past f_undos a_kept f_keptMany a_sights f_sightMany a_text f_size z1.2.1 z1.2.2 a_weights a_tried f_above f_below f_paid a_row a_who a_order a_bestOrder a_costs a_taken, aI cI a_read 52 u3, aI cI a_text 200 f_text]) C 1 rfl (vin_ok rfl) (by rw [e_u3]; rfl) dX9_readsCost_22 ?_
    refine g_iconst (v := (nI 1)) C dX9_readsCost_23 rfl ?_
    cases hs
    exact hR _ _ (Or.inr rfl) dX9_readsCost_24
  · replace hs := vi_t hs c2
    refine g_iconst (v := (nI 0)) C dX9_readsCost_10 rfl ?_
    cases hs
    exact hR _ _ (Or.inl rfl) dX9_readsCost_11
def sX9_readsItem (f_read : Nat → Int32) (f_text : Nat → Int32) (f_size : Int32) (f_at : Int32) (f_value : Int32) : Option (Int32 × (Nat → Int32) × Int32 × Int32) :=
  vb (sX9_here f_text f_size f_at) fun z1 =>
  vlet (f_at + (nI 1)) fun y2 =>
  vi (z1 = (nI 97)) inferInstance (
    vb (sX9_readsActor f_read f_text f_size y2 f_value) fun z4 =>
    vg (vz z4.1) (
    some (z4.1, z4.2.1, z4.2.2.1, z4.2.2.2))) (
    vi (z1 = (nI 104)) inferInstance (
      vb (sX9_readsHabits f_read f_text f_size y2 f_value) fun z7 =>
      vg (vz z7.1) (
      some (z7.1, z7.2.1, z7.2.2.1, z7.2.2.2))) (
      vi (z1 = (nI 108)) inferInstance (
        vb (sX9_readsLikeness f_read f_text f_size y2) fun z10 =>
        vg (vz z10.1) (
        some (z10.1, z10.2.1, z10.2.2, f_value))) (
        vi (z1 = (nI 114)) inferInstance (
          vb (sX9_readsCost f_read f_text f_size y2 f_value) fun z13 =>
          vg (vz z13.1) (
          some (z13.1, z13.2.1, z13.2.2.1, z13.2.2.2))) (
          vi (z1 = (nI 119)) inferInstance (
            vb (sX9_readsWord f_read f_text f_size y2 f_value) fun z16 =>
            vg (vz z16.1) (
            some (z16.1, z16.2.1, z16.2.2.1, z16.2.2.2))) (
            vi (z1 = (nI 120)) inferInstance (
              vb (sX9_readsBarred f_read f_text f_size y2 f_value) fun z19 =>
              vg (vz z19.1) (
              some (z19.1, z19.2.1, z19.2.2.1, z19.2.2.2))) (
              some ((nI 0), f_read, y2, f_value)))))))
abbrev rmX9_readsItem : Room := { frames := 4, cells := 0, slots := 0, locals := 90 }
set_option maxHeartbeats 4000000 in
set_option maxRecDepth 100000 in
theorem cX9_readsItem_ct (l : Launch) (D : va_G) (cI : ClassId) (h : Nat) (a_post : Nat) (a_read : Nat) (a_now : Nat) (a_aside : Nat) (a_past : Nat) (a_kept : Nat) (a_sights : Nat) (a_text : Nat) (a_weights : Nat) (a_tried : Nat) (a_row : Nat) (a_who : Nat) (a_order : Nat) (a_bestOrder : Nat) (a_costs : Nat) (a_taken : Nat) (f_undos : Int32) (f_keptMany : Int32) (f_sightMany : Int32) (f_size : Int32) (f_at : Int32) (f_value : Int32) (f_above : Int64) (f_below : Int64) (f_paid : Int32) (f_read : Nat → Int32) (f_text : Nat → Int32) {z : Int32 × (Nat → Int32) × Int32 × Int32} (hs : sX9_readsItem f_read f_text f_size f_at f_value = some z) : ct l yX9_readsItem (.code yX9_readsItem cX9_readsItem 2 (some .boolean) :: gtb) rmX9_readsItem D cI [.ref h] [oX9 h a_post a_read a_now a_aside a_past f_undos a_kept f_keptMany a_sights f_sightMany a_text f_size f_at f_value a_weights a_tried f_above f_below f_paid a_row a_who a_order a_bestOrder a_costs a_taken, aI cI a_read 52 f_read, aI cI a_text 200 f_text] (some (.int z.1)) [oX9 h a_post a_read a_now a_aside a_past f_undos a_kept f_keptMany a_sights f_sightMany a_text f_size z.2.2.1 z.2.2.2 a_weights a_tried f_above f_below f_paid a_row a_who a_order a_bestOrder a_costs a_taken, aI cI a_read 52 z.2.1, aI cI a_text 200 f_text] := by
  refine ct_ofZ (own := RX9) (by decide +kernel) rfl (Nat.le_of_ble_eq_true rfl) (fun X C hD hR => ?_)
  unfold sX9_readsItem at hs
  show gg cI X 2 0 0 [oX9 h a_post a_read a_now a_aside a_past f_undos a_kept f_keptMany a_sights f_sightMany a_text f_size f_at f_value a_weights a_tried f_above f_below f_paid a_row a_who a_order a_bestOrder a_costs a_taken, aI cI a_read 52 f_read, aI cI a_text 200 f_text] [(0, .ref h)] 0 []
  refine g_aload_n (pl := 0) C dX9_readsItem_0 rfl rfl ?_
  obtain ⟨z1, e_z1, hs⟩ := vb_ok hs
  refine g_callV (ws' := [oX9 h a_post a_read a_now a_aside a_past f_undos a_kept f_keptMany a_sights f_sightMany a_text f_size f_at f_value a_weights a_tried f_above f_below f_paid a_row a_who a_order a_bestOrder a_costs a_taken, aI cI a_read 52 f_read, aI cI a_text 200 f_text]) (rest := []) (st' := [.int z1]) C mX9_92 q4_219 [] (fun l D => cX9_here_ct l D cI h a_post a_read a_now a_aside a_past a_kept a_sights a_text a_weights a_tried a_row a_who a_order a_bestOrder a_costs a_taken f_undos f_keptMany f_sightMany f_size f_at f_value f_above f_below f_paid f_text e_z1) ⟨⟨rfl, rfl⟩, Nat.le_of_ble_eq_true rfl, Nat.le_of_ble_eq_true rfl⟩ 0 rfl rfl rfl [0, 2] rfl rfl rfl rfl rfl (Nat.le_of_ble_eq_true rfl) (Nat.zero_le _) (Nat.zero_le _) rfl dX9_readsItem_1 ?_
  refine g_istore_n (lv' := [(1, .int z1), (0, .ref h)]) C dX9_readsItem_4 rfl (by decide) rfl ?_
  refine g_aload_n (pl := 1) C dX9_readsItem_5 rfl rfl ?_
  refine g_dup C dX9_readsItem_6 rfl ?_
  refine g_get C fX9_89 0 rfl rfl dX9_readsItem_7 ?_
  refine g_iconst (v := (nI 1)) C dX9_readsItem_10 rfl ?_
  refine g_iadd C dX9_readsItem_11 ?_
  obtain ⟨y2, e_y2, hs⟩ := vlet_ex hs
  refine g_topi e_y2 ?_
  refine g_putI (ws' := [oX9 h a_post a_read a_now a_aside a_past f_undos a_kept f_keptMany a_sights f_sightMany a_text f_size y2 f_value a_weights a_tried f_above f_below f_paid a_row a_who a_order a_bestOrder a_costs a_taken, aI cI a_read 52 f_read, aI cI a_text 200 f_text]) C fX9_89 0 rfl (Nat.le_of_ble_eq_true rfl) rfl dX9_readsItem_12 ?_
  refine g_iload_n (pl := 0) C dX9_readsItem_15 rfl rfl ?_
  by_cases c3 : z1 = (nI 97)
  · replace hs := vi_t hs c3
    refine g_lookup (tgt := 101) (off := 85) C dX9_readsItem_16 (by decide) (by rw [c3]; decide) (by decide) ?_
    refine g_aload_n (pl := 1) C dX9_readsItem_101 rfl rfl ?_
    obtain ⟨z4, e_z4, hs⟩ := vb_ok hs
    refine g_callV (ws' := [oX9 h a_post a_read a_now a_aside a_past f_undos a_kept f_keptMany a_sights f_sightMany a_text f_size z4.2.2.1 z4.2.2.2 a_weights a_tried f_above f_below f_paid a_row a_who a_order a_bestOrder a_costs a_taken, aI cI a_read 52 z4.2.1, aI cI a_text 200 f_text]) (rest := []) (st' := [.int z4.1]) C mX9_139 q5_22 [] (fun l D => cX9_readsActor_ct l D cI h a_post a_read a_now a_aside a_past a_kept a_sights a_text a_weights a_tried a_row a_who a_order a_bestOrder a_costs a_taken f_undos f_keptMany f_sightMany f_size y2 f_value f_above f_below f_paid f_read f_text e_z4) ⟨⟨rfl, rfl⟩, Nat.le_of_ble_eq_true rfl, Nat.le_of_ble_eq_true rfl⟩ 0 rfl rfl rfl [0, 1, 2] rfl rfl rfl rfl rfl (Nat.le_of_ble_eq_true rfl) (Nat.zero_le _) (Nat.zero_le _) rfl dX9_readsItem_102 ?_
    obtain ⟨b5, hs⟩ := vg_ok hs
    cases hs
    exact hR _ _ (vz_ok b5) dX9_readsItem_105
  · replace hs := vi_f hs c3
    by_cases c6 : z1 = (nI 104)
    · replace hs := vi_t hs c6
      refine g_lookup (tgt := 91) (off := 75) C dX9_readsItem_16 (by decide) (by rw [c6]; decide) (by decide) ?_
      refine g_aload_n (pl := 1) C dX9_readsItem_91 rfl rfl ?_
      obtain ⟨z7, e_z7, hs⟩ := vb_ok hs
      refine g_callV (ws' := [oX9 h a_post a_read a_now a_aside a_past f_undos a_kept f_keptMany a_sights f_sightMany a_text f_size z7.2.2.1 z7.2.2.2 a_weights a_tried f_above f_below f_paid a_row a_who a_order a_bestOrder a_costs a_taken, aI cI a_read 52 z7.2.1, aI cI a_text 200 f_text]) (rest := []) (st' := [.int z7.1]) C mX9_133 q5_14 [] (fun l D => cX9_readsHabits_ct l D cI h a_post a_read a_now a_aside a_past a_kept a_sights a_text a_weights a_tried a_row a_who a_order a_bestOrder a_costs a_taken f_undos f_keptMany f_sightMany f_size y2 f_value f_above f_below f_paid f_read f_text e_z7) ⟨⟨rfl, rfl⟩, Nat.le_of_ble_eq_true rfl, Nat.le_of_ble_eq_true rfl⟩ 0 rfl rfl rfl [0, 1, 2] rfl rfl rfl rfl rfl (Nat.le_of_ble_eq_true rfl) (Nat.zero_le _) (Nat.zero_le _) rfl dX9_readsItem_92 ?_
      obtain ⟨b8, hs⟩ := vg_ok hs
      cases hs
      exact hR _ _ (vz_ok b8) dX9_readsItem_95
    · replace hs := vi_f hs c6
      by_cases c9 : z1 = (nI 108)
      · replace hs := vi_t hs c9
        refine g_lookup (tgt := 81) (off := 65) C dX9_readsItem_16 (by decide) (by rw [c9]; decide) (by decide) ?_
        refine g_aload_n (pl := 1) C dX9_readsItem_81 rfl rfl ?_
        obtain ⟨z10, e_z10, hs⟩ := vb_ok hs
        refine g_callV (ws' := [oX9 h a_post a_read a_now a_aside a_past f_undos a_kept f_keptMany a_sights f_sightMany a_text f_size z10.2.2 f_value a_weights a_tried f_above f_below f_paid a_row a_who a_order a_bestOrder a_costs a_taken, aI cI a_read 52 z10.2.1, aI cI a_text 200 f_text]) (rest := []) (st' := [.int z10.1]) C mX9_127 q5_3 [] (fun l D => cX9_readsLikeness_ct l D cI h a_post a_read a_now a_aside a_past a_kept a_sights a_text a_weights a_tried a_row a_who a_order a_bestOrder a_costs a_taken f_undos f_keptMany f_sightMany f_size y2 f_value f_above f_below f_paid f_read f_text e_z10) ⟨⟨rfl, rfl⟩, Nat.le_of_ble_eq_true rfl, Nat.le_of_ble_eq_true rfl⟩ 0 rfl rfl rfl [0, 1, 2] rfl rfl rfl rfl rfl (Nat.le_of_ble_eq_true rfl) (Nat.zero_le _) (Nat.zero_le _) rfl dX9_readsItem_82 ?_
        obtain ⟨b11, hs⟩ := vg_ok hs
        cases hs
        exact hR _ _ (vz_ok b11) dX9_readsItem_85
      · replace hs := vi_f hs c9
        by_cases c12 : z1 = (nI 114)
        · replace hs := vi_t hs c12
          refine g_lookup (tgt := 96) (off := 80) C dX9_readsItem_16 (by decide) (by rw [c12]; decide) (by decide) ?_
          refine g_aload_n (pl := 1) C dX9_readsItem_96 rfl rfl ?_
          obtain ⟨z13, e_z13, hs⟩ := vb_ok hs
          refine g_callV (ws' := [oX9 h a_post a_read a_now a_aside a_past f_undos a_kept f_keptMany a_sights f_sightMany a_text f_size z13.2.2.1 z13.2.2.2 a_weights a_tried f_above f_below f_paid a_row a_who a_order a_bestOrder a_costs a_taken, aI cI a_read 52 z13.2.1, aI cI a_text 200 f_text]) (rest := []) (st' := [.int z13.1]) C mX9_136 q5_18 [] (fun l D => cX9_readsCost_ct l D cI h a_post a_read a_now a_aside a_past a_kept a_sights a_text a_weights a_tried a_row a_who a_order a_bestOrder a_costs a_taken f_undos f_keptMany f_sightMany f_size y2 f_value f_above f_below f_paid f_read f_text e_z13) ⟨⟨rfl, rfl⟩, Nat.le_of_ble_eq_true rfl, Nat.le_of_ble_eq_true rfl⟩ 0 rfl rfl rfl [0, 1, 2] rfl rfl rfl rfl rfl (Nat.le_of_ble_eq_true rfl) (Nat.zero_le _) (Nat.zero_le _) rfl dX9_readsItem_97 ?_
          obtain ⟨b14, hs⟩ := vg_ok hs
          cases hs
          exact hR _ _ (vz_ok b14) dX9_readsItem_100
        · replace hs := vi_f hs c12
          by_cases c15 : z1 = (nI 119)
          · replace hs := vi_t hs c15
            refine g_lookup (tgt := 76) (off := 60) C dX9_readsItem_16 (by decide) (by rw [c15]; decide) (by decide) ?_
            refine g_aload_n (pl := 1) C dX9_readsItem_76 rfl rfl ?_
            obtain ⟨z16, e_z16, hs⟩ := vb_ok hs
            refine g_callV (ws' := [oX9 h a_post a_read a_now a_aside a_past f_undos a_kept f_keptMany a_sights f_sightMany a_text f_size z16.2.2.1 z16.2.2.2 a_weights a_tried f_above f_below f_paid a_row a_who a_order a_bestOrder a_costs a_taken, aI cI a_read 52 z16.2.1, aI cI a_text 200 f_text]) (rest := []) (st' := [.int z16.1]) C mX9_123 q4_223 [] (fun l D => cX9_readsWord_ct l D cI h a_post a_read a_now a_aside a_past a_kept a_sights a_text a_weights a_tried a_row a_who a_order a_bestOrder a_costs a_taken f_undos f_keptMany f_sightMany f_size y2 f_value f_above f_below f_paid f_read f_text e_z16) ⟨⟨rfl, rfl⟩, Nat.le_of_ble_eq_true rfl, Nat.le_of_ble_eq_true rfl⟩ 0 rfl rfl rfl [0, 1, 2] rfl rfl rfl rfl rfl (Nat.le_of_ble_eq_true rfl) (Nat.zero_le _) (Nat.zero_le _) rfl dX9_readsItem_77 ?_
            obtain ⟨b17, hs⟩ := vg_ok hs
            cases hs
            exact hR _ _ (vz_ok b17) dX9_readsItem_80
          · replace hs := vi_f hs c15
            by_cases c18 : z1 = (nI 120)
            · replace hs := vi_t hs c18
              refine g_lookup (tgt := 86) (off := 70) C dX9_readsItem_16 (by decide) (by rw [c18]; decide) (by decide) ?_
              refine g_aload_n (pl := 1) C dX9_readsItem_86 rfl rfl ?_
              obtain ⟨z19, e_z19, hs⟩ := vb_ok hs
              refine g_callV (ws' := [oX9 h a_post a_read a_now a_aside a_past f_undos a_kept f_keptMany a_sights f_sightMany a_text f_size z19.2.2.1 z19.2.2.2 a_weights a_tried f_above f_below f_paid a_row a_who a_order a_bestOrder a_costs a_taken, aI cI a_read 52 z19.2.1, aI cI a_text 200 f_text]) (rest := []) (st' := [.int z19.1]) C mX9_130 q5_10 [] (fun l D => cX9_readsBarred_ct l D cI h a_post a_read a_now a_aside a_past a_kept a_sights a_text a_weights a_tried a_row a_who a_order a_bestOrder a_costs a_taken f_undos f_keptMany f_sightMany f_size y2 f_value f_above f_below f_paid f_read f_text e_z19) ⟨⟨rfl, rfl⟩, Nat.le_of_ble_eq_true rfl, Nat.le_of_ble_eq_true rfl⟩ 0 rfl rfl rfl [0, 1, 2] rfl rfl rfl rfl rfl (Nat.le_of_ble_eq_true rfl) (Nat.zero_le _) (Nat.zero_le _) rfl dX9_readsItem_87 ?_
              obtain ⟨b20, hs⟩ := vg_ok hs
              cases hs
              exact hR _ _ (vz_ok b20) dX9_readsItem_90
            · replace hs := vi_f hs c18
              refine g_lookup (tgt := 106) (off := 90) C dX9_readsItem_16 (by decide) ((lv_osw c3 (by decide)).trans ((lv_osw c6 (by decide)).trans ((lv_osw c9 (by decide)).trans ((lv_osw c12 (by decide)).trans ((lv_osw c15 (by decide)).trans ((lv_osw c18 (by decide)).trans rfl)))))) (by decide) ?_
              refine g_iconst (v := (nI 0)) C dX9_readsItem_106 rfl ?_
              cases hs
              exact hR _ _ (Or.inl rfl) dX9_readsItem_107
def LX9_reads_48 (f_text : Nat → Int32) (f_size : Int32) : Nat → (Nat → Int32) → Int32 → Int32 → Option (Int32 × (Nat → Int32) × Int32 × Int32)
  | 0, _, _, _ => none
  | n + 1, f_read, f_at, f_value =>
    vi (f_size ≤ f_at) inferInstance (
      some ((-4), f_read, f_at, f_value)) (
      vb (sX9_readsItem f_read f_text f_size f_at f_value) fun z2 =>
      vi (z2.1 = 0) inferInstance (
        some (f_at, z2.2.1, z2.2.2.1, z2.2.2.2)) (
        vb (sX9_takes f_text f_size z2.2.2.1 (nI 59)) fun z4 =>
        vi (z4.1 = 0) inferInstance (
          some (f_at, z2.2.1, z4.2, z2.2.2.2)) (
          LX9_reads_48 f_text f_size n z2.2.1 z4.2 z2.2.2.2)))
def LX9_reads_2 (f_text : Nat → Int32) (f_size : Int32) (f_value : Int32) : Nat → Int32 → (Nat → Int32) → Option (Int32 × (Nat → Int32) × Int32 × Int32)
  | 0, _, _ => none
  | n + 1, y_1, f_read =>
    vi ((nI 52) ≤ y_1) inferInstance (
      vlet (upd f_read (Int32.toNatClampNeg (nI 4)) (nI 3)) fun u7 =>
      vlet (upd u7 (Int32.toNatClampNeg (nI 5)) (nI 2)) fun u8 =>
      vlet (upd u8 (Int32.toNatClampNeg (nI 6)) (nI 2)) fun u9 =>
      LX9_reads_48 f_text f_size vF u9 (nI 0) f_value) (
      vg (vin y_1 52) (
      vlet (upd f_read (Int32.toNatClampNeg y_1) (nI 0)) fun u11 =>
      vlet (y_1 + (nI 1)) fun y12 =>
      LX9_reads_2 f_text f_size f_value n y12 u11))
def sX9_reads (f_read : Nat → Int32) (f_text : Nat → Int32) (f_size : Int32) (f_at : Int32) (f_value : Int32) : Option (Int32 × (Nat → Int32) × Int32 × Int32) :=
  LX9_reads_2 f_text f_size f_value vF (nI 0) f_read
abbrev rmX9_reads : Room := { frames := 5, cells := 0, slots := 0, locals := 111 }
set_option maxHeartbeats 4000000 in
set_option maxRecDepth 100000 in
theorem LX9_reads_48_w {cI : ClassId} {X : xT} (C : cx cI X 2 cX9_reads RX9 rmX9_reads) (h : Nat) (a_post : Nat) (a_read : Nat) (a_now : Nat) (a_aside : Nat) (a_past : Nat) (a_kept : Nat) (a_sights : Nat) (a_text : Nat) (a_weights : Nat) (a_tried : Nat) (a_row : Nat) (a_who : Nat) (a_order : Nat) (a_bestOrder : Nat) (a_costs : Nat) (a_taken : Nat) (f_undos : Int32) (f_keptMany : Int32) (f_sightMany : Int32) (f_size : Int32) (f_above : Int64) (f_below : Int64) (f_paid : Int32) (f_text : Nat → Int32) {z : Int32 × (Nat → Int32) × Int32 × Int32} (hR : ∀ (lv : List (Nat × Value)) (pc : Nat), decode cX9_reads pc = .ok (.ireturn, 1) → gg cI X 2 0 0 [oX9 h a_post a_read a_now a_aside a_past f_undos a_kept f_keptMany a_sights f_sightMany a_text f_size z.2.2.1 z.2.2.2 a_weights a_tried f_above f_below f_paid a_row a_who a_order a_bestOrder a_costs a_taken, aI cI a_read 52 z.2.1, aI cI a_text 200 f_text] lv pc [.int z.1]) : ∀ (n : Nat) (f_read : Nat → Int32) (f_at : Int32) (f_value : Int32), LX9_reads_48 f_text f_size n f_read f_at f_value = some z → gg cI X 2 0 0 [oX9 h a_post a_read a_now a_aside a_past f_undos a_kept f_keptMany a_sights f_sightMany a_text f_size f_at f_value a_weights a_tried f_above f_below f_paid a_row a_who a_order a_bestOrder a_costs a_taken, aI cI a_read 52 f_read, aI cI a_text 200 f_text] [(0, .ref h)] 48 [] := by
  intro n
  induction n with
  | zero =>
    intro f_read f_at f_value hs
    exact nn_ok hs
  | succ n ih =>
    intro f_read f_at f_value hs
    rw [LX9_reads_48] at hs
    refine g_aload_n (pl := 0) C dX9_reads_48 rfl rfl ?_
    refine g_get C fX9_89 0 rfl rfl dX9_reads_49 ?_
    refine g_aload_n (pl := 0) C dX9_reads_52 rfl rfl ?_
    refine g_get C fX9_86 0 rfl rfl dX9_reads_53 ?_
    refine g_icmp_ge (tgt := 85) C dX9_reads_56 (by decide) (fun c1 => ?_) (fun c1 => ?_)
    · replace hs := vi_t hs c1
      refine g_bipush (v := (-4)) C dX9_reads_85 rfl ?_
      cases hs
      exact hR _ _ dX9_reads_87
    · replace hs := vi_f hs c1
      refine g_aload_n (pl := 0) C dX9_reads_59 rfl rfl ?_
      refine g_get C fX9_89 0 rfl rfl dX9_reads_60 ?_
      refine g_istore_n (lv' := [(1, .int f_at), (0, .ref h)]) C dX9_reads_63 rfl (by decide) rfl ?_
      refine g_aload_n (pl := 1) C dX9_reads_64 rfl rfl ?_
      obtain ⟨z2, e_z2, hs⟩ := vb_ok hs
      refine g_callV (ws' := [oX9 h a_post a_read a_now a_aside a_past f_undos a_kept f_keptMany a_sights f_sightMany a_text f_size z2.2.2.1 z2.2.2.2 a_weights a_tried f_above f_below f_paid a_row a_who a_order a_bestOrder a_costs a_taken, aI cI a_read 52 z2.2.1, aI cI a_text 200 f_text]) (rest := []) (st' := [.int z2.1]) C mX9_142 q4_215 [] (fun l D => cX9_readsItem_ct l D cI h a_post a_read a_now a_aside a_past a_kept a_sights a_text a_weights a_tried a_row a_who a_order a_bestOrder a_costs a_taken f_undos f_keptMany f_sightMany f_size f_at f_value f_above f_below f_paid f_read f_text e_z2) ⟨⟨rfl, rfl⟩, Nat.le_of_ble_eq_true rfl, Nat.le_of_ble_eq_true rfl⟩ 0 rfl rfl rfl [0, 1, 2] rfl rfl rfl rfl rfl (Nat.le_of_ble_eq_true rfl) (Nat.zero_le _) (Nat.zero_le _) rfl dX9_reads_65 ?_
      refine g_if_eq (tgt := 80) C dX9_reads_68 (by decide) (fun c3 => ?_) (fun c3 => ?_)
      · replace hs := vi_t hs c3
        refine g_iload_n (pl := 0) C dX9_reads_80 rfl rfl ?_
        cases hs
        exact hR _ _ dX9_reads_81
      · replace hs := vi_f hs c3
        refine g_aload_n (pl := 1) C dX9_reads_71 rfl rfl ?_
        refine g_bipush (v := (nI 59)) C dX9_reads_72 rfl ?_
        obtain ⟨z4, e_z4, hs⟩ := vb_ok hs
        refine g_callV (ws' := [oX9 h a_post a_read a_now a_aside a_past f_undos a_kept f_keptMany a_sights f_sightMany a_text f_size z4.2 z2.2.2.2 a_weights a_tried f_above f_below f_paid a_row a_who a_order a_bestOrder a_costs a_taken, aI cI a_read 52 z2.2.1, aI cI a_text 200 f_text]) (rest := []) (st' := [.int z4.1]) C mX9_111 q4_236 [.int (nI 59)] (fun l D => cX9_takes_ct l D cI h a_post a_read a_now a_aside a_past a_kept a_sights a_text a_weights a_tried a_row a_who a_order a_bestOrder a_costs a_taken f_undos f_keptMany f_sightMany f_size z2.2.2.1 z2.2.2.2 f_above f_below f_paid f_text (nI 59) e_z4) ⟨⟨rfl, rfl⟩, Nat.le_of_ble_eq_true rfl, Nat.le_of_ble_eq_true rfl⟩ 0 rfl rfl rfl [0, 2] rfl rfl rfl rfl rfl (Nat.le_of_ble_eq_true rfl) (Nat.zero_le _) (Nat.zero_le _) rfl dX9_reads_74 ?_
        refine g_if_ne (tgt := 82) C dX9_reads_77 (by decide) (fun c5 => ?_) (fun c5 => ?_)
        · replace hs := vi_f hs c5
          refine g_goto (tgt := 48) C dX9_reads_82 (by decide) ?_
          refine g_sub [1] rfl ?_
          exact ih z2.2.1 z4.2 z2.2.2.2 hs
        · replace hs := vi_t hs c5
          refine g_iload_n (pl := 0) C dX9_reads_80 rfl rfl ?_
          cases hs
          exact hR _ _ dX9_reads_81
set_option maxHeartbeats 4000000 in
set_option maxRecDepth 100000 in
theorem LX9_reads_2_w {cI : ClassId} {X : xT} (C : cx cI X 2 cX9_reads RX9 rmX9_reads) (h : Nat) (a_post : Nat) (a_read : Nat) (a_now : Nat) (a_aside : Nat) (a_past : Nat) (a_kept : Nat) (a_sights : Nat) (a_text : Nat) (a_weights : Nat) (a_tried : Nat) (a_row : Nat) (a_who : Nat) (a_order : Nat) (a_bestOrder : Nat) (a_costs : Nat) (a_taken : Nat) (f_undos : Int32) (f_keptMany : Int32) (f_sightMany : Int32) (f_size : Int32) (f_at : Int32) (f_value : Int32) (f_above : Int64) (f_below : Int64) (f_paid : Int32) (f_text : Nat → Int32) {z : Int32 × (Nat → Int32) × Int32 × Int32} (hR : ∀ (lv : List (Nat × Value)) (pc : Nat), decode cX9_reads pc = .ok (.ireturn, 1) → gg cI X 2 0 0 [oX9 h a_post a_read a_now a_aside a_past f_undos a_kept f_keptMany a_sights f_sightMany a_text f_size z.2.2.1 z.2.2.2 a_weights a_tried f_above f_below f_paid a_row a_who a_order a_bestOrder a_costs a_taken, aI cI a_read 52 z.2.1, aI cI a_text 200 f_text] lv pc [.int z.1]) : ∀ (n : Nat) (y_1 : Int32) (f_read : Nat → Int32), LX9_reads_2 f_text f_size f_value n y_1 f_read = some z → gg cI X 2 0 0 [oX9 h a_post a_read a_now a_aside a_past f_undos a_kept f_keptMany a_sights f_sightMany a_text f_size f_at f_value a_weights a_tried f_above f_below f_paid a_row a_who a_order a_bestOrder a_costs a_taken, aI cI a_read 52 f_read, aI cI a_text 200 f_text] [(0, .ref h), (1, .int y_1)] 2 [] := by
  intro n
  induction n with
  | zero =>
    intro y_1 f_read hs
    exact nn_ok hs
  | succ n ih =>
    intro y_1 f_read hs
    rw [LX9_reads_2] at hs
    refine g_iload_n (pl := 1) C dX9_reads_2 rfl rfl ?_
    refine g_bipush (v := (nI 52)) C dX9_reads_3 rfl ?_
    refine g_icmp_ge (tgt := 21) C dX9_reads_5 (by decide) (fun c6 => ?_) (fun c6 => ?_)
    · replace hs := vi_t hs c6
      refine g_aload_n (pl := 0) C dX9_reads_21 rfl rfl ?_
      refine g_get C fX9_13 0 rfl rfl dX9_reads_22 ?_
      refine g_iconst (v := (nI 4)) C dX9_reads_25 rfl ?_
      refine g_iconst (v := (nI 3)) C dX9_reads_26 rfl ?_
      obtain ⟨u7, e_u7, hs⟩ := vlet_ex hs
      refine g_iast (ws' := [oX9 h a_post a_read a_now a_aside a_past f_undos a_kept f_keptMany a_sights f_sightMany a_text f_size f_at f_value a_weights a_tried f_above f_below f_paid a_row a_who a_order a_bestOrder a_costs a_taken, aI cI a_read 52 u7, aI cI a_text 200 f_text]) C 1 rfl (vin_ok rfl) (by rw [e_u7]; rfl) dX9_reads_27 ?_
      refine g_aload_n (pl := 0) C dX9_reads_28 rfl rfl ?_
      refine g_get C fX9_13 0 rfl rfl dX9_reads_29 ?_
      refine g_iconst (v := (nI 5)) C dX9_reads_32 rfl ?_
      refine g_iconst (v := (nI 2)) C dX9_reads_33 rfl ?_
      obtain ⟨u8, e_u8, hs⟩ := vlet_ex hs
      refine g_iast (ws' := [oX9 h a_post a_read a_now a_aside a_past f_undos a_kept f_keptMany a_sights f_sightMany a_text f_size f_at f_value a_weights a_tried f_above f_below f_paid a_row a_who a_order a_bestOrder a_costs a_taken, aI cI a_read 52 u8, aI cI a_text 200 f_text]) C 1 rfl (vin_ok rfl) (by rw [e_u8]; rfl) dX9_reads_34 ?_
      refine g_aload_n (pl := 0) C dX9_reads_35 rfl rfl ?_
      refine g_get C fX9_13 0 rfl rfl dX9_reads_36 ?_
      refine g_bipush (v := (nI 6)) C dX9_reads_39 rfl ?_
      refine g_iconst (v := (nI 2)) C dX9_reads_41 rfl ?_
      obtain ⟨u9, e_u9, hs⟩ := vlet_ex hs
      refine g_iast (ws' := [oX9 h a_post a_read a_now a_aside a_past f_undos a_kept f_keptMany a_sights f_sightMany a_text f_size f_at f_value a_weights a_tried f_above f_below f_paid a_row a_who a_order a_bestOrder a_costs a_taken, aI cI a_read 52 u9, aI cI a_text 200 f_text]) C 1 rfl (vin_ok rfl) (by rw [e_u9]; rfl) dX9_reads_42 ?_
      refine g_aload_n (pl := 0) C dX9_reads_43 rfl rfl ?_
      refine g_iconst (v := (nI 0)) C dX9_reads_44 rfl ?_
      refine g_putI (ws' := [oX9 h a_post a_read a_now a_aside a_past f_undos a_kept f_keptMany a_sights f_sightMany a_text f_size (nI 0) f_value a_weights a_tried f_above f_below f_paid a_row a_who a_order a_bestOrder a_costs a_taken, aI cI a_read 52 u9, aI cI a_text 200 f_text]) C fX9_89 0 rfl (Nat.le_of_ble_eq_true rfl) rfl dX9_reads_45 ?_
      refine g_sub [0] rfl ?_
      exact LX9_reads_48_w C h a_post a_read a_now a_aside a_past a_kept a_sights a_text a_weights a_tried a_row a_who a_order a_bestOrder a_costs a_taken f_undos f_keptMany f_sightMany f_size f_above f_below f_paid f_text hR _ u9 (nI 0) f_value hs
    · replace hs := vi_f hs c6
      refine g_aload_n (pl := 0) C dX9_reads_8 rfl rfl ?_
      refine g_get C fX9_13 0 rfl rfl dX9_reads_9 ?_
      refine g_iload_n (pl := 1) C dX9_reads_12 rfl rfl ?_
      refine g_iconst (v := (nI 0)) C dX9_reads_13 rfl ?_
      obtain ⟨b10, hs⟩ := vg_ok hs
      obtain ⟨u11, e_u11, hs⟩ := vlet_ex hs
      refine g_iast (ws' := [oX9 h a_post a_read a_now a_aside a_past f_undos a_kept f_keptMany a_sights f_sightMany a_text f_size f_at f_value a_weights a_tried f_above f_below f_paid a_row a_who a_order a_bestOrder a_costs a_taken, aI cI a_read 52 u11, aI cI a_text 200 f_text]) C 1 rfl (vin_ok b10) (by rw [e_u11]; rfl) dX9_reads_14 ?_
      obtain ⟨y12, e_y12, hs⟩ := vlet_ex hs
      refine g_iinc (pl := 1) (lv' := [(1, .int y12), (0, .ref h)]) C dX9_reads_15 rfl e_y12.symm (by decide) rfl ?_
      refine g_goto (tgt := 2) C dX9_reads_18 (by decide) ?_
      refine g_sub [1, 0] rfl ?_
      exact ih y12 u11 hs
set_option maxHeartbeats 4000000 in
set_option maxRecDepth 100000 in
theorem cX9_reads_ct (l : Launch) (D : va_G) (cI : ClassId) (h : Nat) (a_post : Nat) (a_read : Nat) (a_now : Nat) (a_aside : Nat) (a_past : Nat) (a_kept : Nat) (a_sights : Nat) (a_text : Nat) (a_weights : Nat) (a_tried : Nat) (a_row : Nat) (a_who : Nat) (a_order : Nat) (a_bestOrder : Nat) (a_costs : Nat) (a_taken : Nat) (f_undos : Int32) (f_keptMany : Int32) (f_sightMany : Int32) (f_size : Int32) (f_at : Int32) (f_value : Int32) (f_above : Int64) (f_below : Int64) (f_paid : Int32) (f_read : Nat → Int32) (f_text : Nat → Int32) {z : Int32 × (Nat → Int32) × Int32 × Int32} (hs : sX9_reads f_read f_text f_size f_at f_value = some z) : ct l yX9_reads (.code yX9_reads cX9_reads 2 (some .int) :: gtb) rmX9_reads D cI [.ref h] [oX9 h a_post a_read a_now a_aside a_past f_undos a_kept f_keptMany a_sights f_sightMany a_text f_size f_at f_value a_weights a_tried f_above f_below f_paid a_row a_who a_order a_bestOrder a_costs a_taken, aI cI a_read 52 f_read, aI cI a_text 200 f_text] (some (.int z.1)) [oX9 h a_post a_read a_now a_aside a_past f_undos a_kept f_keptMany a_sights f_sightMany a_text f_size z.2.2.1 z.2.2.2 a_weights a_tried f_above f_below f_paid a_row a_who a_order a_bestOrder a_costs a_taken, aI cI a_read 52 z.2.1, aI cI a_text 200 f_text] := by
  refine ct_ofI (own := RX9) (by decide +kernel) rfl (Nat.le_of_ble_eq_true rfl) (fun X C hD hR => ?_)
  unfold sX9_reads at hs
  show gg cI X 2 0 0 [oX9 h a_post a_read a_now a_aside a_past f_undos a_kept f_keptMany a_sights f_sightMany a_text f_size f_at f_value a_weights a_tried f_above f_below f_paid a_row a_who a_order a_bestOrder a_costs a_taken, aI cI a_read 52 f_read, aI cI a_text 200 f_text] [(0, .ref h)] 0 []
  refine g_iconst (v := (nI 0)) C dX9_reads_0 rfl ?_
  refine g_istore_n (lv' := [(1, .int (nI 0)), (0, .ref h)]) C dX9_reads_1 rfl (by decide) rfl ?_
  refine g_sub [1, 0] rfl ?_
  exact LX9_reads_2_w C h a_post a_read a_now a_aside a_past a_kept a_sights a_text a_weights a_tried a_row a_who a_order a_bestOrder a_costs a_taken f_undos f_keptMany f_sightMany f_size f_at f_value f_above f_below f_paid f_text hR _ (nI 0) f_read hs
def sX9_fault (f_read : Nat → Int32) (f_text : Nat → Int32) (f_size : Int32) (f_at : Int32) (f_value : Int32) : Option (Int32 × (Nat → Int32) × Int32 × Int32) :=
  vb (sX9_reads f_read f_text f_size f_at f_value) fun z1 =>
  some (z1.1, z1.2.1, z1.2.2.1, z1.2.2.2)
abbrev rmX9_fault : Room := { frames := 6, cells := 0, slots := 0, locals := 132 }
set_option maxHeartbeats 4000000 in
set_option maxRecDepth 100000 in
theorem cX9_fault_ct (l : Launch) (D : va_G) (cI : ClassId) (h : Nat) (a_post : Nat) (a_read : Nat) (a_now : Nat) (a_aside : Nat) (a_past : Nat) (a_kept : Nat) (a_sights : Nat) (a_text : Nat) (a_weights : Nat) (a_tried : Nat) (a_row : Nat) (a_who : Nat) (a_order : Nat) (a_bestOrder : Nat) (a_costs : Nat) (a_taken : Nat) (f_undos : Int32) (f_keptMany : Int32) (f_sightMany : Int32) (f_size : Int32) (f_at : Int32) (f_value : Int32) (f_above : Int64) (f_below : Int64) (f_paid : Int32) (f_read : Nat → Int32) (f_text : Nat → Int32) {z : Int32 × (Nat → Int32) × Int32 × Int32} (hs : sX9_fault f_read f_text f_size f_at f_value = some z) : ct l yX9_fault (.code yX9_fault cX9_fault 1 (some .int) :: gtb) rmX9_fault D cI [.ref h] [oX9 h a_post a_read a_now a_aside a_past f_undos a_kept f_keptMany a_sights f_sightMany a_text f_size f_at f_value a_weights a_tried f_above f_below f_paid a_row a_who a_order a_bestOrder a_costs a_taken, aI cI a_read 52 f_read, aI cI a_text 200 f_text] (some (.int z.1)) [oX9 h a_post a_read a_now a_aside a_past f_undos a_kept f_keptMany a_sights f_sightMany a_text f_size z.2.2.1 z.2.2.2 a_weights a_tried f_above f_below f_paid a_row a_who a_order a_bestOrder a_costs a_taken, aI cI a_read 52 z.2.1, aI cI a_text 200 f_text] := by
  refine ct_ofI (own := RX9) (by decide +kernel) rfl (Nat.le_of_ble_eq_true rfl) (fun X C hD hR => ?_)
  unfold sX9_fault at hs
  show gg cI X 1 0 0 [oX9 h a_post a_read a_now a_aside a_past f_undos a_kept f_keptMany a_sights f_sightMany a_text f_size f_at f_value a_weights a_tried f_above f_below f_paid a_row a_who a_order a_bestOrder a_costs a_taken, aI cI a_read 52 f_read, aI cI a_text 200 f_text] [(0, .ref h)] 0 []
  refine g_aload_n (pl := 0) C dX9_fault_0 rfl rfl ?_
  obtain ⟨z1, e_z1, hs⟩ := vb_ok hs
  refine g_callV (ws' := [oX9 h a_post a_read a_now a_aside a_past f_undos a_kept f_keptMany a_sights f_sightMany a_text f_size z1.2.2.1 z1.2.2.2 a_weights a_tried f_above f_below f_paid a_row a_who a_order a_bestOrder a_costs a_taken, aI cI a_read 52 z1.2.1, aI cI a_text 200 f_text]) (rest := []) (st' := [.int z1.1]) C mX9_145 q4_211 [] (fun l D => cX9_reads_ct l D cI h a_post a_read a_now a_aside a_past a_kept a_sights a_text a_weights a_tried a_row a_who a_order a_bestOrder a_costs a_taken f_undos f_keptMany f_sightMany f_size f_at f_value f_above f_below f_paid f_read f_text e_z1) ⟨⟨rfl, rfl⟩, Nat.le_of_ble_eq_true rfl, Nat.le_of_ble_eq_true rfl⟩ 0 rfl rfl rfl [0, 1, 2] rfl rfl rfl rfl rfl (Nat.le_of_ble_eq_true rfl) (Nat.zero_le _) (Nat.zero_le _) rfl dX9_fault_1 ?_
  cases hs
  exact hR _ _ dX9_fault_4
def sX9_lay (f_post : Nat → Int32) (f_read : Nat → Int32) (f_now : Nat → Int32) (f_undos : Int32) (f_keptMany : Int32) (f_sightMany : Int32) (f_text : Nat → Int32) (f_size : Int32) (f_at : Int32) (f_value : Int32) : Option (Int32 × (Nat → Int32) × (Nat → Int32) × (Nat → Int32) × Int32 × Int32 × Int32 × Int32 × Int32) :=
  vb (sX9_reads f_read f_text f_size f_at f_value) fun z1 =>
  vi (z1.1 = (-4)) inferInstance (
    vi ((z1.2.1 (Int32.toNatClampNeg (nI 0))) = 0) inferInstance (
      some ((-2), f_post, z1.2.1, f_now, f_undos, f_keptMany, f_sightMany, z1.2.2.1, z1.2.2.2)) (
      vi ((z1.2.1 (Int32.toNatClampNeg (nI 2))) = 0) inferInstance (
        some ((-2), f_post, z1.2.1, f_now, f_undos, f_keptMany, f_sightMany, z1.2.2.1, z1.2.2.2)) (
        vb (sX9_copies 52 52 z1.2.1 f_post (nI 0) (nI 0) (nI 52)) fun z5 =>
        vb (sX9_begins z5 f_now f_undos f_keptMany f_sightMany) fun z6 =>
        some (z5 (Int32.toNatClampNeg (nI 2)), z5, z1.2.1, z6.1, z6.2.1, z6.2.2.1, z6.2.2.2, z1.2.2.1, z1.2.2.2)))) (
    some ((-2), f_post, z1.2.1, f_now, f_undos, f_keptMany, f_sightMany, z1.2.2.1, z1.2.2.2))
abbrev rmX9_lay : Room := { frames := 6, cells := 0, slots := 0, locals := 132 }
set_option maxHeartbeats 4000000 in
set_option maxRecDepth 100000 in
theorem cX9_lay_ct (l : Launch) (D : va_G) (cI : ClassId) (h : Nat) (a_post : Nat) (a_read : Nat) (a_now : Nat) (a_aside : Nat) (a_past : Nat) (a_kept : Nat) (a_sights : Nat) (a_text : Nat) (a_weights : Nat) (a_tried : Nat) (a_row : Nat) (a_who : Nat) (a_order : Nat) (a_bestOrder : Nat) (a_costs : Nat) (a_taken : Nat) (f_undos : Int32) (f_keptMany : Int32) (f_sightMany : Int32) (f_size : Int32) (f_at : Int32) (f_value : Int32) (f_above : Int64) (f_below : Int64) (f_paid : Int32) (f_post : Nat → Int32) (f_read : Nat → Int32) (f_now : Nat → Int32) (f_text : Nat → Int32) {z : Int32 × (Nat → Int32) × (Nat → Int32) × (Nat → Int32) × Int32 × Int32 × Int32 × Int32 × Int32} (hs : sX9_lay f_post f_read f_now f_undos f_keptMany f_sightMany f_text f_size f_at f_value = some z) : ct l yX9_lay (.code yX9_lay cX9_lay 1 (some .int) :: gtb) rmX9_lay D cI [.ref h] [oX9 h a_post a_read a_now a_aside a_past f_undos a_kept f_keptMany a_sights f_sightMany a_text f_size f_at f_value a_weights a_tried f_above f_below f_paid a_row a_who a_order a_bestOrder a_costs a_taken, aI cI a_post 52 f_post, aI cI a_read 52 f_read, aI cI a_now 50 f_now, aI cI a_text 200 f_text] (some (.int z.1)) [oX9 h a_post a_read a_now a_aside a_past z.2.2.2.2.1 a_kept z.2.2.2.2.2.1 a_sights z.2.2.2.2.2.2.1 a_text f_size z.2.2.2.2.2.2.2.1 z.2.2.2.2.2.2.2.2 a_weights a_tried f_above f_below f_paid a_row a_who a_order a_bestOrder a_costs a_taken, aI cI a_post 52 z.2.1, aI cI a_read 52 z.2.2.1, aI cI a_now 50 z.2.2.2.1, aI cI a_text 200 f_text] := by
  refine ct_ofI (own := RX9) (by decide +kernel) rfl (Nat.le_of_ble_eq_true rfl) (fun X C hD hR => ?_)
  unfold sX9_lay at hs
  show gg cI X 1 0 0 [oX9 h a_post a_read a_now a_aside a_past f_undos a_kept f_keptMany a_sights f_sightMany a_text f_size f_at f_value a_weights a_tried f_above f_below f_paid a_row a_who a_order a_bestOrder a_costs a_taken, aI cI a_post 52 f_post, aI cI a_read 52 f_read, aI cI a_now 50 f_now, aI cI a_text 200 f_text] [(0, .ref h)] 0 []
  refine g_aload_n (pl := 0) C dX9_lay_0 rfl rfl ?_
  obtain ⟨z1, e_z1, hs⟩ := vb_ok hs
  refine g_callV (ws' := [oX9 h a_post a_read a_now a_aside a_past f_undos a_kept f_keptMany a_sights f_sightMany a_text f_size z1.2.2.1 z1.2.2.2 a_weights a_tried f_above f_below f_paid a_row a_who a_order a_bestOrder a_costs a_taken, aI cI a_post 52 f_post, aI cI a_read 52 z1.2.1, aI cI a_now 50 f_now, aI cI a_text 200 f_text]) (rest := []) (st' := [.int z1.1]) C mX9_145 q4_211 [] (fun l D => cX9_reads_ct l D cI h a_post a_read a_now a_aside a_past a_kept a_sights a_text a_weights a_tried a_row a_who a_order a_bestOrder a_costs a_taken f_undos f_keptMany f_sightMany f_size f_at f_value f_above f_below f_paid f_read f_text e_z1) ⟨⟨rfl, rfl⟩, Nat.le_of_ble_eq_true rfl, Nat.le_of_ble_eq_true rfl⟩ 0 rfl rfl rfl [0, 2, 4] rfl rfl rfl rfl rfl (Nat.le_of_ble_eq_true rfl) (Nat.zero_le _) (Nat.zero_le _) rfl dX9_lay_1 ?_
  refine g_bipush (v := (-4)) C dX9_lay_4 rfl ?_
  refine g_icmp_ne (tgt := 27) C dX9_lay_6 (by decide) (fun c2 => ?_) (fun c2 => ?_)
  · replace hs := vi_f hs c2
    refine g_bipush (v := (-2)) C dX9_lay_27 rfl ?_
    cases hs
    exact hR _ _ dX9_lay_29
  · replace hs := vi_t hs c2
    refine g_aload_n (pl := 0) C dX9_lay_9 rfl rfl ?_
    refine g_get C fX9_13 0 rfl rfl dX9_lay_10 ?_
    refine g_iconst (v := (nI 0)) C dX9_lay_13 rfl ?_
    refine g_iald C 2 rfl (vin_ok rfl) dX9_lay_14 ?_
    refine g_if_eq (tgt := 27) C dX9_lay_15 (by decide) (fun c3 => ?_) (fun c3 => ?_)
    · replace hs := vi_t hs c3
      refine g_bipush (v := (-2)) C dX9_lay_27 rfl ?_
      cases hs
      exact hR _ _ dX9_lay_29
    · replace hs := vi_f hs c3
      refine g_aload_n (pl := 0) C dX9_lay_18 rfl rfl ?_
      refine g_get C fX9_13 0 rfl rfl dX9_lay_19 ?_
      refine g_iconst (v := (nI 2)) C dX9_lay_22 rfl ?_
      refine g_iald C 2 rfl (vin_ok rfl) dX9_lay_23 ?_
      refine g_if_ne (tgt := 30) C dX9_lay_24 (by decide) (fun c4 => ?_) (fun c4 => ?_)
      · replace hs := vi_f hs c4
        refine g_aload_n (pl := 0) C dX9_lay_30 rfl rfl ?_
        refine g_get C fX9_13 0 rfl rfl dX9_lay_31 ?_
        refine g_iconst (v := (nI 0)) C dX9_lay_34 rfl ?_
        refine g_aload_n (pl := 0) C dX9_lay_35 rfl rfl ?_
        refine g_get C fX9_7 0 rfl rfl dX9_lay_36 ?_
        refine g_iconst (v := (nI 0)) C dX9_lay_39 rfl ?_
        refine g_bipush (v := (nI 52)) C dX9_lay_40 rfl ?_
        obtain ⟨z5, e_z5, hs⟩ := vb_ok hs
        refine g_callS (ws' := [oX9 h a_post a_read a_now a_aside a_past f_undos a_kept f_keptMany a_sights f_sightMany a_text f_size z1.2.2.1 z1.2.2.2 a_weights a_tried f_above f_below f_paid a_row a_who a_order a_bestOrder a_costs a_taken, aI cI a_post 52 z5, aI cI a_read 52 z1.2.1, aI cI a_now 50 f_now, aI cI a_text 200 f_text]) (rest := []) (st' := []) C mX9_148 q5_29 [.ref a_read, .int (nI 0), .ref a_post, .int (nI 0), .int (nI 52)] (fun l D => cX9_copies_ct l D cI a_read a_post 52 52 z1.2.1 f_post (nI 0) (nI 0) (nI 52) e_z5) ⟨⟨rfl, rfl⟩, Nat.le_of_ble_eq_true rfl, Nat.le_of_ble_eq_true rfl⟩ rfl [2, 1] rfl rfl rfl rfl rfl (Nat.le_of_ble_eq_true rfl) (Nat.zero_le _) (Nat.zero_le _) rfl dX9_lay_42 ?_
        refine g_aload_n (pl := 0) C dX9_lay_45 rfl rfl ?_
        obtain ⟨z6, e_z6, hs⟩ := vb_ok hs
        refine g_callV (ws' := [oX9 h a_post a_read a_now a_aside a_past z6.2.1 a_kept z6.2.2.1 a_sights z6.2.2.2 a_text f_size z1.2.2.1 z1.2.2.2 a_weights a_tried f_above f_below f_paid a_row a_who a_order a_bestOrder a_costs a_taken, aI cI a_post 52 z5, aI cI a_read 52 z1.2.1, aI cI a_now 50 z6.1, aI cI a_text 200 f_text]) (rest := []) (st' := []) C mX9_65 q4_114 [] (fun l D => cX9_begins_ct l D cI h a_post a_read a_now a_aside a_past a_kept a_sights a_text a_weights a_tried a_row a_who a_order a_bestOrder a_costs a_taken f_undos f_keptMany f_sightMany f_size z1.2.2.1 z1.2.2.2 f_above f_below f_paid z5 f_now e_z6) ⟨⟨rfl, rfl⟩, Nat.le_of_ble_eq_true rfl, Nat.le_of_ble_eq_true rfl⟩ 0 rfl rfl rfl [0, 1, 3] rfl rfl rfl rfl rfl (Nat.le_of_ble_eq_true rfl) (Nat.zero_le _) (Nat.zero_le _) rfl dX9_lay_46 ?_
        refine g_aload_n (pl := 0) C dX9_lay_49 rfl rfl ?_
        refine g_get C fX9_7 0 rfl rfl dX9_lay_50 ?_
        refine g_iconst (v := (nI 2)) C dX9_lay_53 rfl ?_
        refine g_iald C 1 rfl (vin_ok rfl) dX9_lay_54 ?_
        cases hs
        exact hR _ _ dX9_lay_55
      · replace hs := vi_t hs c4
        refine g_bipush (v := (-2)) C dX9_lay_27 rfl ?_
        cases hs
        exact hR _ _ dX9_lay_29
def sX9_signs (f_post : Nat → Int32) : Option (Int32) :=
  some ((nI 9) + (f_post (Int32.toNatClampNeg (nI 1))))
abbrev rmX9_signs : Room := { frames := 0, cells := 0, slots := 0, locals := 0 }
set_option maxHeartbeats 4000000 in
set_option maxRecDepth 100000 in
theorem cX9_signs_ct (l : Launch) (D : va_G) (cI : ClassId) (h : Nat) (a_post : Nat) (a_read : Nat) (a_now : Nat) (a_aside : Nat) (a_past : Nat) (a_kept : Nat) (a_sights : Nat) (a_text : Nat) (a_weights : Nat) (a_tried : Nat) (a_row : Nat) (a_who : Nat) (a_order : Nat) (a_bestOrder : Nat) (a_costs : Nat) (a_taken : Nat) (f_undos : Int32) (f_keptMany : Int32) (f_sightMany : Int32) (f_size : Int32) (f_at : Int32) (f_value : Int32) (f_above : Int64) (f_below : Int64) (f_paid : Int32) (f_post : Nat → Int32) {z : Int32} (hs : sX9_signs f_post = some z) : ct l yX9_signs (.code yX9_signs cX9_signs 1 (some .int) :: gtb) rmX9_signs D cI [.ref h] [oX9 h a_post a_read a_now a_aside a_past f_undos a_kept f_keptMany a_sights f_sightMany a_text f_size f_at f_value a_weights a_tried f_above f_below f_paid a_row a_who a_order a_bestOrder a_costs a_taken, aI cI a_post 52 f_post] (some (.int z)) [oX9 h a_post a_read a_now a_aside a_past f_undos a_kept f_keptMany a_sights f_sightMany a_text f_size f_at f_value a_weights a_tried f_above f_below f_paid a_row a_who a_order a_bestOrder a_costs a_taken, aI cI a_post 52 f_post] := by
  refine ct_ofI (own := RX9) (by decide +kernel) rfl (Nat.le_of_ble_eq_true rfl) (fun X C hD hR => ?_)
  unfold sX9_signs at hs
  show gg cI X 1 0 0 [oX9 h a_post a_read a_now a_aside a_past f_undos a_kept f_keptMany a_sights f_sightMany a_text f_size f_at f_value a_weights a_tried f_above f_below f_paid a_row a_who a_order a_bestOrder a_costs a_taken, aI cI a_post 52 f_post] [(0, .ref h)] 0 []
  refine g_bipush (v := (nI 9)) C dX9_signs_0 rfl ?_
  refine g_aload_n (pl := 0) C dX9_signs_2 rfl rfl ?_
  refine g_get C fX9_7 0 rfl rfl dX9_signs_3 ?_
  refine g_iconst (v := (nI 1)) C dX9_signs_6 rfl ?_
  refine g_iald C 1 rfl (vin_ok rfl) dX9_signs_7 ?_
  refine g_iadd C dX9_signs_8 ?_
  cases hs
  exact hR _ _ dX9_signs_9
def sX9_isWord (f_post : Nat → Int32) (x1 : Int32) : Option (Int32) :=
  vb (sX9_in (Int32.toInt64 x1) (lN 0) (Int32.toInt64 ((f_post (Int32.toNatClampNeg (nI 0))) - (nI 1)))) fun z1 =>
  vg (vz z1) (
  some (z1))
abbrev rmX9_isWord : Room := { frames := 1, cells := 0, slots := 0, locals := 25 }
set_option maxHeartbeats 4000000 in
set_option maxRecDepth 100000 in
theorem cX9_isWord_ct (l : Launch) (D : va_G) (cI : ClassId) (h : Nat) (a_post : Nat) (a_read : Nat) (a_now : Nat) (a_aside : Nat) (a_past : Nat) (a_kept : Nat) (a_sights : Nat) (a_text : Nat) (a_weights : Nat) (a_tried : Nat) (a_row : Nat) (a_who : Nat) (a_order : Nat) (a_bestOrder : Nat) (a_costs : Nat) (a_taken : Nat) (f_undos : Int32) (f_keptMany : Int32) (f_sightMany : Int32) (f_size : Int32) (f_at : Int32) (f_value : Int32) (f_above : Int64) (f_below : Int64) (f_paid : Int32) (f_post : Nat → Int32) (x1 : Int32) {z : Int32} (hs : sX9_isWord f_post x1 = some z) : ct l yX9_isWord (.code yX9_isWord cX9_isWord 2 (some .boolean) :: gtb) rmX9_isWord D cI [.ref h, .int x1] [oX9 h a_post a_read a_now a_aside a_past f_undos a_kept f_keptMany a_sights f_sightMany a_text f_size f_at f_value a_weights a_tried f_above f_below f_paid a_row a_who a_order a_bestOrder a_costs a_taken, aI cI a_post 52 f_post] (some (.int z)) [oX9 h a_post a_read a_now a_aside a_past f_undos a_kept f_keptMany a_sights f_sightMany a_text f_size f_at f_value a_weights a_tried f_above f_below f_paid a_row a_who a_order a_bestOrder a_costs a_taken, aI cI a_post 52 f_post] := by
  refine ct_ofZ (own := RX9) (by decide +kernel) rfl (Nat.le_of_ble_eq_true rfl) (fun X C hD hR => ?_)
  unfold sX9_isWord at hs
  show gg cI X 2 0 0 [oX9 h a_post a_read a_now a_aside a_past f_undos a_kept f_keptMany a_sights f_sightMany a_text f_size f_at f_value a_weights a_tried f_above f_below f_paid a_row a_who a_order a_bestOrder a_costs a_taken, aI cI a_post 52 f_post] [(0, .ref h), (1, .int x1)] 0 []
  refine g_iload_n (pl := 1) C dX9_isWord_0 rfl rfl ?_
  refine g_i2l C dX9_isWord_1 ?_
  refine g_lconst (v := (lN 0)) C dX9_isWord_2 rfl ?_
  refine g_aload_n (pl := 0) C dX9_isWord_3 rfl rfl ?_
  refine g_get C fX9_7 0 rfl rfl dX9_isWord_4 ?_
  refine g_iconst (v := (nI 0)) C dX9_isWord_7 rfl ?_
  refine g_iald C 1 rfl (vin_ok rfl) dX9_isWord_8 ?_
  refine g_iconst (v := (nI 1)) C dX9_isWord_9 rfl ?_
  refine g_isub C dX9_isWord_10 ?_
  refine g_i2l C dX9_isWord_11 ?_
  obtain ⟨z1, e_z1, hs⟩ := vb_ok hs
  refine g_callS (ws' := [oX9 h a_post a_read a_now a_aside a_past f_undos a_kept f_keptMany a_sights f_sightMany a_text f_size f_at f_value a_weights a_tried f_above f_below f_paid a_row a_who a_order a_bestOrder a_costs a_taken, aI cI a_post 52 f_post]) (rest := []) (st' := [.int z1]) C mX9_82 q4_199 [.long (Int32.toInt64 x1), .long (lN 0), .long (Int32.toInt64 ((f_post (Int32.toNatClampNeg (nI 0))) - (nI 1)))] (fun l D => cX9_in_ct l D cI (Int32.toInt64 x1) (lN 0) (Int32.toInt64 ((f_post (Int32.toNatClampNeg (nI 0))) - (nI 1))) e_z1) ⟨⟨rfl, rfl⟩, Nat.le_of_ble_eq_true rfl, Nat.le_of_ble_eq_true rfl⟩ rfl [] rfl rfl rfl rfl rfl (Nat.le_of_ble_eq_true rfl) (Nat.zero_le _) (Nat.zero_le _) rfl dX9_isWord_12 ?_
  obtain ⟨b2, hs⟩ := vg_ok hs
  cases hs
  exact hR _ _ (vz_ok b2) dX9_isWord_15
def sX9_isSign (f_post : Nat → Int32) (x1 : Int32) : Option (Int32) :=
  vb (sX9_signs f_post) fun z1 =>
  vb (sX9_in (Int32.toInt64 x1) (lN 0) (Int32.toInt64 (z1 - (nI 1)))) fun z2 =>
  vg (vz z2) (
  some (z2))
abbrev rmX9_isSign : Room := { frames := 1, cells := 0, slots := 0, locals := 25 }
set_option maxHeartbeats 4000000 in
set_option maxRecDepth 100000 in
theorem cX9_isSign_ct (l : Launch) (D : va_G) (cI : ClassId) (h : Nat) (a_post : Nat) (a_read : Nat) (a_now : Nat) (a_aside : Nat) (a_past : Nat) (a_kept : Nat) (a_sights : Nat) (a_text : Nat) (a_weights : Nat) (a_tried : Nat) (a_row : Nat) (a_who : Nat) (a_order : Nat) (a_bestOrder : Nat) (a_costs : Nat) (a_taken : Nat) (f_undos : Int32) (f_keptMany : Int32) (f_sightMany : Int32) (f_size : Int32) (f_at : Int32) (f_value : Int32) (f_above : Int64) (f_below : Int64) (f_paid : Int32) (f_post : Nat → Int32) (x1 : Int32) {z : Int32} (hs : sX9_isSign f_post x1 = some z) : ct l yX9_isSign (.code yX9_isSign cX9_isSign 2 (some .boolean) :: gtb) rmX9_isSign D cI [.ref h, .int x1] [oX9 h a_post a_read a_now a_aside a_past f_undos a_kept f_keptMany a_sights f_sightMany a_text f_size f_at f_value a_weights a_tried f_above f_below f_paid a_row a_who a_order a_bestOrder a_costs a_taken, aI cI a_post 52 f_post] (some (.int z)) [oX9 h a_post a_read a_now a_aside a_past f_undos a_kept f_keptMany a_sights f_sightMany a_text f_size f_at f_value a_weights a_tried f_above f_below f_paid a_row a_who a_order a_bestOrder a_costs a_taken, aI cI a_post 52 f_post] := by
  refine ct_ofZ (own := RX9) (by decide +kernel) rfl (Nat.le_of_ble_eq_true rfl) (fun X C hD hR => ?_)
  unfold sX9_isSign at hs
  show gg cI X 2 0 0 [oX9 h a_post a_read a_now a_aside a_past f_undos a_kept f_keptMany a_sights f_sightMany a_text f_size f_at f_value a_weights a_tried f_above f_below f_paid a_row a_who a_order a_bestOrder a_costs a_taken, aI cI a_post 52 f_post] [(0, .ref h), (1, .int x1)] 0 []
  refine g_iload_n (pl := 1) C dX9_isSign_0 rfl rfl ?_
  refine g_i2l C dX9_isSign_1 ?_
  refine g_lconst (v := (lN 0)) C dX9_isSign_2 rfl ?_
  refine g_aload_n (pl := 0) C dX9_isSign_3 rfl rfl ?_
  obtain ⟨z1, e_z1, hs⟩ := vb_ok hs
  refine g_callV (ws' := [oX9 h a_post a_read a_now a_aside a_past f_undos a_kept f_keptMany a_sights f_sightMany a_text f_size f_at f_value a_weights a_tried f_above f_below f_paid a_row a_who a_order a_bestOrder a_costs a_taken, aI cI a_post 52 f_post]) (rest := [.long (lN 0), .long (Int32.toInt64 x1)]) (st' := [.int z1, .long (lN 0), .long (Int32.toInt64 x1)]) C mX9_152 q5_53 [] (fun l D => cX9_signs_ct l D cI h a_post a_read a_now a_aside a_past a_kept a_sights a_text a_weights a_tried a_row a_who a_order a_bestOrder a_costs a_taken f_undos f_keptMany f_sightMany f_size f_at f_value f_above f_below f_paid f_post e_z1) ⟨⟨rfl, rfl⟩, Nat.le_of_ble_eq_true rfl, Nat.le_of_ble_eq_true rfl⟩ 0 rfl rfl rfl [0, 1] rfl rfl rfl rfl rfl (Nat.le_of_ble_eq_true rfl) (Nat.zero_le _) (Nat.zero_le _) rfl dX9_isSign_4 ?_
  refine g_iconst (v := (nI 1)) C dX9_isSign_7 rfl ?_
  refine g_isub C dX9_isSign_8 ?_
  refine g_i2l C dX9_isSign_9 ?_
  obtain ⟨z2, e_z2, hs⟩ := vb_ok hs
  refine g_callS (ws' := [oX9 h a_post a_read a_now a_aside a_past f_undos a_kept f_keptMany a_sights f_sightMany a_text f_size f_at f_value a_weights a_tried f_above f_below f_paid a_row a_who a_order a_bestOrder a_costs a_taken, aI cI a_post 52 f_post]) (rest := []) (st' := [.int z2]) C mX9_82 q4_199 [.long (Int32.toInt64 x1), .long (lN 0), .long (Int32.toInt64 (z1 - (nI 1)))] (fun l D => cX9_in_ct l D cI (Int32.toInt64 x1) (lN 0) (Int32.toInt64 (z1 - (nI 1))) e_z2) ⟨⟨rfl, rfl⟩, Nat.le_of_ble_eq_true rfl, Nat.le_of_ble_eq_true rfl⟩ rfl [] rfl rfl rfl rfl rfl (Nat.le_of_ble_eq_true rfl) (Nat.zero_le _) (Nat.zero_le _) rfl dX9_isSign_10 ?_
  obtain ⟨b3, hs⟩ := vg_ok hs
  cases hs
  exact hR _ _ (vz_ok b3) dX9_isSign_13
def sX9_isActor (f_post : Nat → Int32) (x1 : Int32) : Option (Int32) :=
  vb (sX9_in (Int32.toInt64 x1) (lN 0) (Int32.toInt64 ((f_post (Int32.toNatClampNeg (nI 2))) - (nI 1)))) fun z1 =>
  vg (vz z1) (
  some (z1))
abbrev rmX9_isActor : Room := { frames := 1, cells := 0, slots := 0, locals := 25 }
set_option maxHeartbeats 4000000 in
set_option maxRecDepth 100000 in
theorem cX9_isActor_ct (l : Launch) (D : va_G) (cI : ClassId) (h : Nat) (a_post : Nat) (a_read : Nat) (a_now : Nat) (a_aside : Nat) (a_past : Nat) (a_kept : Nat) (a_sights : Nat) (a_text : Nat) (a_weights : Nat) (a_tried : Nat) (a_row : Nat) (a_who : Nat) (a_order : Nat) (a_bestOrder : Nat) (a_costs : Nat) (a_taken : Nat) (f_undos : Int32) (f_keptMany : Int32) (f_sightMany : Int32) (f_size : Int32) (f_at : Int32) (f_value : Int32) (f_above : Int64) (f_below : Int64) (f_paid : Int32) (f_post : Nat → Int32) (x1 : Int32) {z : Int32} (hs : sX9_isActor f_post x1 = some z) : ct l yX9_isActor (.code yX9_isActor cX9_isActor 2 (some .boolean) :: gtb) rmX9_isActor D cI [.ref h, .int x1] [oX9 h a_post a_read a_now a_aside a_past f_undos a_kept f_keptMany a_sights f_sightMany a_text f_size f_at f_value a_weights a_tried f_above f_below f_paid a_row a_who a_order a_bestOrder a_costs a_taken, aI cI a_post 52 f_post] (some (.int z)) [oX9 h a_post a_read a_now a_aside a_past f_undos a_kept f_keptMany a_sights f_sightMany a_text f_size f_at f_value a_weights a_tried f_above f_below f_paid a_row a_who a_order a_bestOrder a_costs a_taken, aI cI a_post 52 f_post] := by
  refine ct_ofZ (own := RX9) (by decide +kernel) rfl (Nat.le_of_ble_eq_true rfl) (fun X C hD hR => ?_)
  unfold sX9_isActor at hs
  show gg cI X 2 0 0 [oX9 h a_post a_read a_now a_aside a_past f_undos a_kept f_keptMany a_sights f_sightMany a_text f_size f_at f_value a_weights a_tried f_above f_below f_paid a_row a_who a_order a_bestOrder a_costs a_taken, aI cI a_post 52 f_post] [(0, .ref h), (1, .int x1)] 0 []
  refine g_iload_n (pl := 1) C dX9_isActor_0 rfl rfl ?_
  refine g_i2l C dX9_isActor_1 ?_
  refine g_lconst (v := (lN 0)) C dX9_isActor_2 rfl ?_
  refine g_aload_n (pl := 0) C dX9_isActor_3 rfl rfl ?_
  refine g_get C fX9_7 0 rfl rfl dX9_isActor_4 ?_
  refine g_iconst (v := (nI 2)) C dX9_isActor_7 rfl ?_
  refine g_iald C 1 rfl (vin_ok rfl) dX9_isActor_8 ?_
  refine g_iconst (v := (nI 1)) C dX9_isActor_9 rfl ?_
  refine g_isub C dX9_isActor_10 ?_
  refine g_i2l C dX9_isActor_11 ?_
  obtain ⟨z1, e_z1, hs⟩ := vb_ok hs
  refine g_callS (ws' := [oX9 h a_post a_read a_now a_aside a_past f_undos a_kept f_keptMany a_sights f_sightMany a_text f_size f_at f_value a_weights a_tried f_above f_below f_paid a_row a_who a_order a_bestOrder a_costs a_taken, aI cI a_post 52 f_post]) (rest := []) (st' := [.int z1]) C mX9_82 q4_199 [.long (Int32.toInt64 x1), .long (lN 0), .long (Int32.toInt64 ((f_post (Int32.toNatClampNeg (nI 2))) - (nI 1)))] (fun l D => cX9_in_ct l D cI (Int32.toInt64 x1) (lN 0) (Int32.toInt64 ((f_post (Int32.toNatClampNeg (nI 2))) - (nI 1))) e_z1) ⟨⟨rfl, rfl⟩, Nat.le_of_ble_eq_true rfl, Nat.le_of_ble_eq_true rfl⟩ rfl [] rfl rfl rfl rfl rfl (Nat.le_of_ble_eq_true rfl) (Nat.zero_le _) (Nat.zero_le _) rfl dX9_isActor_12 ?_
  obtain ⟨b2, hs⟩ := vg_ok hs
  cases hs
  exact hR _ _ (vz_ok b2) dX9_isActor_15
def LX9_likesOf_4 (y_1 : Int32) (f_post : Nat → Int32) : Nat → Int32 → Int32 → Option (Int32)
  | 0, _, _ => none
  | n + 1, y_2, y_3 =>
    vi ((f_post (Int32.toNatClampNeg (nI 1))) ≤ y_3) inferInstance (
      some (y_2)) (
      vg (vin ((nI 31) + y_3) 52) (
      vb (sX9_has (f_post (Int32.toNatClampNeg ((nI 31) + y_3))) y_1) fun z3 =>
      vi (z3 = 0) inferInstance (
        vlet (y_2 ||| (nI 0)) fun y5 =>
        vlet (y_3 + (nI 1)) fun y6 =>
        LX9_likesOf_4 y_1 f_post n y5 y6) (
        vlet (y_2 ||| ((nI 1) <<< (y_3 &&& 31))) fun y7 =>
        vlet (y_3 + (nI 1)) fun y8 =>
        LX9_likesOf_4 y_1 f_post n y7 y8)))
def sX9_likesOf (f_post : Nat → Int32) (x1 : Int32) : Option (Int32) :=
  LX9_likesOf_4 x1 f_post vF (nI 0) (nI 0)
abbrev rmX9_likesOf : Room := { frames := 1, cells := 0, slots := 0, locals := 21 }
set_option maxHeartbeats 4000000 in
set_option maxRecDepth 100000 in
theorem LX9_likesOf_4_w {cI : ClassId} {X : xT} (C : cx cI X 4 cX9_likesOf RX9 rmX9_likesOf) (h : Nat) (a_post : Nat) (a_read : Nat) (a_now : Nat) (a_aside : Nat) (a_past : Nat) (a_kept : Nat) (a_sights : Nat) (a_text : Nat) (a_weights : Nat) (a_tried : Nat) (a_row : Nat) (a_who : Nat) (a_order : Nat) (a_bestOrder : Nat) (a_costs : Nat) (a_taken : Nat) (f_undos : Int32) (f_keptMany : Int32) (f_sightMany : Int32) (f_size : Int32) (f_at : Int32) (f_value : Int32) (f_above : Int64) (f_below : Int64) (f_paid : Int32) (f_post : Nat → Int32) (y_1 : Int32) {z : Int32} (hR : ∀ (lv : List (Nat × Value)) (pc : Nat), decode cX9_likesOf pc = .ok (.ireturn, 1) → gg cI X 4 0 0 [oX9 h a_post a_read a_now a_aside a_past f_undos a_kept f_keptMany a_sights f_sightMany a_text f_size f_at f_value a_weights a_tried f_above f_below f_paid a_row a_who a_order a_bestOrder a_costs a_taken, aI cI a_post 52 f_post] lv pc [.int z]) : ∀ (n : Nat) (y_2 : Int32) (y_3 : Int32), LX9_likesOf_4 y_1 f_post n y_2 y_3 = some z → gg cI X 4 0 0 [oX9 h a_post a_read a_now a_aside a_past f_undos a_kept f_keptMany a_sights f_sightMany a_text f_size f_at f_value a_weights a_tried f_above f_below f_paid a_row a_who a_order a_bestOrder a_costs a_taken, aI cI a_post 52 f_post] [(0, .ref h), (1, .int y_1), (2, .int y_2), (3, .int y_3)] 4 [] := by
  intro n
  induction n with
  | zero =>
    intro y_2 y_3 hs
    exact nn_ok hs
  | succ n ih =>
    intro y_2 y_3 hs
    rw [LX9_likesOf_4] at hs
    refine g_iload_n (pl := 3) C dX9_likesOf_4 rfl rfl ?_
    refine g_aload_n (pl := 0) C dX9_likesOf_5 rfl rfl ?_
    refine g_get C fX9_7 0 rfl rfl dX9_likesOf_6 ?_
    refine g_iconst (v := (nI 1)) C dX9_likesOf_9 rfl ?_
    refine g_iald C 1 rfl (vin_ok rfl) dX9_likesOf_10 ?_
    refine g_icmp_ge (tgt := 46) C dX9_likesOf_11 (by decide) (fun c1 => ?_) (fun c1 => ?_)
    · replace hs := vi_t hs c1
      refine g_iload_n (pl := 2) C dX9_likesOf_46 rfl rfl ?_
      cases hs
      exact hR _ _ dX9_likesOf_47
    · replace hs := vi_f hs c1
      refine g_iload_n (pl := 2) C dX9_likesOf_14 rfl rfl ?_
      refine g_aload_n (pl := 0) C dX9_likesOf_15 rfl rfl ?_
      refine g_get C fX9_7 0 rfl rfl dX9_likesOf_16 ?_
      refine g_bipush (v := (nI 31)) C dX9_likesOf_19 rfl ?_
      refine g_iload_n (pl := 3) C dX9_likesOf_21 rfl rfl ?_
      refine g_iadd C dX9_likesOf_22 ?_
      obtain ⟨b2, hs⟩ := vg_ok hs
      refine g_iald C 1 rfl (vin_ok b2) dX9_likesOf_23 ?_
      refine g_iload_n (pl := 1) C dX9_likesOf_24 rfl rfl ?_
      obtain ⟨z3, e_z3, hs⟩ := vb_ok hs
      refine g_callS (ws' := [oX9 h a_post a_read a_now a_aside a_past f_undos a_kept f_keptMany a_sights f_sightMany a_text f_size f_at f_value a_weights a_tried f_above f_below f_paid a_row a_who a_order a_bestOrder a_costs a_taken, aI cI a_post 52 f_post]) (rest := [.int y_2]) (st' := [.int z3, .int y_2]) C mX9_120 q5_6 [.int (f_post (Int32.toNatClampNeg ((nI 31) + y_3))), .int y_1] (fun l D => cX9_has_ct l D cI (f_post (Int32.toNatClampNeg ((nI 31) + y_3))) y_1 e_z3) ⟨⟨rfl, rfl⟩, Nat.le_of_ble_eq_true rfl, Nat.le_of_ble_eq_true rfl⟩ rfl [] rfl rfl rfl rfl rfl (Nat.le_of_ble_eq_true rfl) (Nat.zero_le _) (Nat.zero_le _) rfl dX9_likesOf_25 ?_
      refine g_if_eq (tgt := 37) C dX9_likesOf_28 (by decide) (fun c4 => ?_) (fun c4 => ?_)
      · replace hs := vi_t hs c4
        refine g_iconst (v := (nI 0)) C dX9_likesOf_37 rfl ?_
        refine g_ior C dX9_likesOf_38 ?_
        obtain ⟨y5, e_y5, hs⟩ := vlet_ex hs
        refine g_topi e_y5 ?_
        refine g_istore_n (lv' := [(2, .int y5), (0, .ref h), (1, .int y_1), (3, .int y_3)]) C dX9_likesOf_39 rfl (by decide) rfl ?_
        obtain ⟨y6, e_y6, hs⟩ := vlet_ex hs
        refine g_iinc (pl := 3) (lv' := [(3, .int y6), (2, .int y5), (0, .ref h), (1, .int y_1)]) C dX9_likesOf_40 rfl e_y6.symm (by decide) rfl ?_
        refine g_goto (tgt := 4) C dX9_likesOf_43 (by decide) ?_
        refine g_sub [2, 3, 1, 0] rfl ?_
        exact ih y5 y6 hs
      · replace hs := vi_f hs c4
        refine g_iconst (v := (nI 1)) C dX9_likesOf_31 rfl ?_
        refine g_iload_n (pl := 3) C dX9_likesOf_32 rfl rfl ?_
        refine g_ishl C dX9_likesOf_33 ?_
        refine g_goto (tgt := 38) C dX9_likesOf_34 (by decide) ?_
        refine g_ior C dX9_likesOf_38 ?_
        obtain ⟨y7, e_y7, hs⟩ := vlet_ex hs
        refine g_topi e_y7 ?_
        refine g_istore_n (lv' := [(2, .int y7), (0, .ref h), (1, .int y_1), (3, .int y_3)]) C dX9_likesOf_39 rfl (by decide) rfl ?_
        obtain ⟨y8, e_y8, hs⟩ := vlet_ex hs
        refine g_iinc (pl := 3) (lv' := [(3, .int y8), (2, .int y7), (0, .ref h), (1, .int y_1)]) C dX9_likesOf_40 rfl e_y8.symm (by decide) rfl ?_
        refine g_goto (tgt := 4) C dX9_likesOf_43 (by decide) ?_
        refine g_sub [2, 3, 1, 0] rfl ?_
        exact ih y7 y8 hs
set_option maxHeartbeats 4000000 in
set_option maxRecDepth 100000 in
theorem cX9_likesOf_ct (l : Launch) (D : va_G) (cI : ClassId) (h : Nat) (a_post : Nat) (a_read : Nat) (a_now : Nat) (a_aside : Nat) (a_past : Nat) (a_kept : Nat) (a_sights : Nat) (a_text : Nat) (a_weights : Nat) (a_tried : Nat) (a_row : Nat) (a_who : Nat) (a_order : Nat) (a_bestOrder : Nat) (a_costs : Nat) (a_taken : Nat) (f_undos : Int32) (f_keptMany : Int32) (f_sightMany : Int32) (f_size : Int32) (f_at : Int32) (f_value : Int32) (f_above : Int64) (f_below : Int64) (f_paid : Int32) (f_post : Nat → Int32) (x1 : Int32) {z : Int32} (hs : sX9_likesOf f_post x1 = some z) : ct l yX9_likesOf (.code yX9_likesOf cX9_likesOf 4 (some .int) :: gtb) rmX9_likesOf D cI [.ref h, .int x1] [oX9 h a_post a_read a_now a_aside a_past f_undos a_kept f_keptMany a_sights f_sightMany a_text f_size f_at f_value a_weights a_tried f_above f_below f_paid a_row a_who a_order a_bestOrder a_costs a_taken, aI cI a_post 52 f_post] (some (.int z)) [oX9 h a_post a_read a_now a_aside a_past f_undos a_kept f_keptMany a_sights f_sightMany a_text f_size f_at f_value a_weights a_tried f_above f_below f_paid a_row a_who a_order a_bestOrder a_costs a_taken, aI cI a_post 52 f_post] := by
  refine ct_ofI (own := RX9) (by decide +kernel) rfl (Nat.le_of_ble_eq_true rfl) (fun X C hD hR => ?_)
  unfold sX9_likesOf at hs
  show gg cI X 4 0 0 [oX9 h a_post a_read a_now a_aside a_past f_undos a_kept f_keptMany a_sights f_sightMany a_text f_size f_at f_value a_weights a_tried f_above f_below f_paid a_row a_who a_order a_bestOrder a_costs a_taken, aI cI a_post 52 f_post] [(0, .ref h), (1, .int x1)] 0 []
  refine g_iconst (v := (nI 0)) C dX9_likesOf_0 rfl ?_
  refine g_istore_n (lv' := [(2, .int (nI 0)), (0, .ref h), (1, .int x1)]) C dX9_likesOf_1 rfl (by decide) rfl ?_
  refine g_iconst (v := (nI 0)) C dX9_likesOf_2 rfl ?_
  refine g_istore_n (lv' := [(3, .int (nI 0)), (2, .int (nI 0)), (0, .ref h), (1, .int x1)]) C dX9_likesOf_3 rfl (by decide) rfl ?_
  refine g_sub [2, 3, 1, 0] rfl ?_
  exact LX9_likesOf_4_w C h a_post a_read a_now a_aside a_past a_kept a_sights a_text a_weights a_tried a_row a_who a_order a_bestOrder a_costs a_taken f_undos f_keptMany f_sightMany f_size f_at f_value f_above f_below f_paid f_post x1 hR _ (nI 0) (nI 0) hs
def sX9_word_ (f_post : Nat → Int32) (x1 : Int32) (x2 : Int32) : Option (Int32) :=
  vb (sX9_isWord f_post x1) fun z1 =>
  vi (z1 = 0) inferInstance (
    some ((-1))) (
    vb (sX9_in (Int32.toInt64 x2) (lN 0) (lN 3)) fun z3 =>
    vi (z3 = 0) inferInstance (
      some ((-1))) (
      vi ((nI 3) ≤ x2) inferInstance (
        vb (sX9_likesOf f_post x1) fun z6 =>
        some (z6)) (
        vg (vin (((nI 7) + ((nI 8) * x2)) + x1) 52) (
        some (f_post (Int32.toNatClampNeg (((nI 7) + ((nI 8) * x2)) + x1)))))))
abbrev rmX9_word_ : Room := { frames := 2, cells := 0, slots := 0, locals := 46 }
set_option maxHeartbeats 4000000 in
set_option maxRecDepth 100000 in
theorem cX9_word__ct (l : Launch) (D : va_G) (cI : ClassId) (h : Nat) (a_post : Nat) (a_read : Nat) (a_now : Nat) (a_aside : Nat) (a_past : Nat) (a_kept : Nat) (a_sights : Nat) (a_text : Nat) (a_weights : Nat) (a_tried : Nat) (a_row : Nat) (a_who : Nat) (a_order : Nat) (a_bestOrder : Nat) (a_costs : Nat) (a_taken : Nat) (f_undos : Int32) (f_keptMany : Int32) (f_sightMany : Int32) (f_size : Int32) (f_at : Int32) (f_value : Int32) (f_above : Int64) (f_below : Int64) (f_paid : Int32) (f_post : Nat → Int32) (x1 : Int32) (x2 : Int32) {z : Int32} (hs : sX9_word_ f_post x1 x2 = some z) : ct l yX9_word_ (.code yX9_word_ cX9_word_ 3 (some .int) :: gtb) rmX9_word_ D cI [.ref h, .int x1, .int x2] [oX9 h a_post a_read a_now a_aside a_past f_undos a_kept f_keptMany a_sights f_sightMany a_text f_size f_at f_value a_weights a_tried f_above f_below f_paid a_row a_who a_order a_bestOrder a_costs a_taken, aI cI a_post 52 f_post] (some (.int z)) [oX9 h a_post a_read a_now a_aside a_past f_undos a_kept f_keptMany a_sights f_sightMany a_text f_size f_at f_value a_weights a_tried f_above f_below f_paid a_row a_who a_order a_bestOrder a_costs a_taken, aI cI a_post 52 f_post] := by
  refine ct_ofI (own := RX9) (by decide +kernel) rfl (Nat.le_of_ble_eq_true rfl) (fun X C hD hR => ?_)
  unfold sX9_word_ at hs
  show gg cI X 3 0 0 [oX9 h a_post a_read a_now a_aside a_past f_undos a_kept f_keptMany a_sights f_sightMany a_text f_size f_at f_value a_weights a_tried f_above f_below f_paid a_row a_who a_order a_bestOrder a_costs a_taken, aI cI a_post 52 f_post] [(0, .ref h), (1, .int x1), (2, .int x2)] 0 []
  refine g_aload_n (pl := 0) C dX9_word__0 rfl rfl ?_
  refine g_iload_n (pl := 1) C dX9_word__1 rfl rfl ?_
  obtain ⟨z1, e_z1, hs⟩ := vb_ok hs
  refine g_callV (ws' := [oX9 h a_post a_read a_now a_aside a_past f_undos a_kept f_keptMany a_sights f_sightMany a_text f_size f_at f_value a_weights a_tried f_above f_below f_paid a_row a_who a_order a_bestOrder a_costs a_taken, aI cI a_post 52 f_post]) (rest := []) (st' := [.int z1]) C mX9_155 q5_37 [.int x1] (fun l D => cX9_isWord_ct l D cI h a_post a_read a_now a_aside a_past a_kept a_sights a_text a_weights a_tried a_row a_who a_order a_bestOrder a_costs a_taken f_undos f_keptMany f_sightMany f_size f_at f_value f_above f_below f_paid f_post x1 e_z1) ⟨⟨rfl, rfl⟩, Nat.le_of_ble_eq_true rfl, Nat.le_of_ble_eq_true rfl⟩ 0 rfl rfl rfl [0, 1] rfl rfl rfl rfl rfl (Nat.le_of_ble_eq_true rfl) (Nat.zero_le _) (Nat.zero_le _) rfl dX9_word__2 ?_
  refine g_if_eq (tgt := 20) C dX9_word__5 (by decide) (fun c2 => ?_) (fun c2 => ?_)
  · replace hs := vi_t hs c2
    refine g_iconst (v := (-1)) C dX9_word__20 rfl ?_
    cases hs
    exact hR _ _ dX9_word__21
  · replace hs := vi_f hs c2
    refine g_iload_n (pl := 2) C dX9_word__8 rfl rfl ?_
    refine g_i2l C dX9_word__9 ?_
    refine g_lconst (v := (lN 0)) C dX9_word__10 rfl ?_
    refine g_ldc2 (v := (lN 3)) C q4_239 dX9_word__11 ?_
    obtain ⟨z3, e_z3, hs⟩ := vb_ok hs
    refine g_callS (ws' := [oX9 h a_post a_read a_now a_aside a_past f_undos a_kept f_keptMany a_sights f_sightMany a_text f_size f_at f_value a_weights a_tried f_above f_below f_paid a_row a_who a_order a_bestOrder a_costs a_taken, aI cI a_post 52 f_post]) (rest := []) (st' := [.int z3]) C mX9_82 q4_199 [.long (Int32.toInt64 x2), .long (lN 0), .long (lN 3)] (fun l D => cX9_in_ct l D cI (Int32.toInt64 x2) (lN 0) (lN 3) e_z3) ⟨⟨rfl, rfl⟩, Nat.le_of_ble_eq_true rfl, Nat.le_of_ble_eq_true rfl⟩ rfl [] rfl rfl rfl rfl rfl (Nat.le_of_ble_eq_true rfl) (Nat.zero_le _) (Nat.zero_le _) rfl dX9_word__14 ?_
    refine g_if_ne (tgt := 22) C dX9_word__17 (by decide) (fun c4 => ?_) (fun c4 => ?_)
    · replace hs := vi_f hs c4
      refine g_iload_n (pl := 2) C dX9_word__22 rfl rfl ?_
      refine g_iconst (v := (nI 3)) C dX9_word__23 rfl ?_
      refine g_icmp_ge (tgt := 44) C dX9_word__24 (by decide) (fun c5 => ?_) (fun c5 => ?_)
      · replace hs := vi_t hs c5
        refine g_aload_n (pl := 0) C dX9_word__44 rfl rfl ?_
        refine g_iload_n (pl := 1) C dX9_word__45 rfl rfl ?_
        obtain ⟨z6, e_z6, hs⟩ := vb_ok hs
        refine g_callV (ws' := [oX9 h a_post a_read a_now a_aside a_past f_undos a_kept f_keptMany a_sights f_sightMany a_text f_size f_at f_value a_weights a_tried f_above f_below f_paid a_row a_who a_order a_bestOrder a_costs a_taken, aI cI a_post 52 f_post]) (rest := []) (st' := [.int z6]) C mX9_158 q5_41 [.int x1] (fun l D => cX9_likesOf_ct l D cI h a_post a_read a_now a_aside a_past a_kept a_sights a_text a_weights a_tried a_row a_who a_order a_bestOrder a_costs a_taken f_undos f_keptMany f_sightMany f_size f_at f_value f_above f_below f_paid f_post x1 e_z6) ⟨⟨rfl, rfl⟩, Nat.le_of_ble_eq_true rfl, Nat.le_of_ble_eq_true rfl⟩ 0 rfl rfl rfl [0, 1] rfl rfl rfl rfl rfl (Nat.le_of_ble_eq_true rfl) (Nat.zero_le _) (Nat.zero_le _) rfl dX9_word__46 ?_
        cases hs
        exact hR _ _ dX9_word__49
      · replace hs := vi_f hs c5
        refine g_aload_n (pl := 0) C dX9_word__27 rfl rfl ?_
        refine g_get C fX9_7 0 rfl rfl dX9_word__28 ?_
        refine g_bipush (v := (nI 7)) C dX9_word__31 rfl ?_
        refine g_bipush (v := (nI 8)) C dX9_word__33 rfl ?_
        refine g_iload_n (pl := 2) C dX9_word__35 rfl rfl ?_
        refine g_imul C dX9_word__36 ?_
        refine g_iadd C dX9_word__37 ?_
        refine g_iload_n (pl := 1) C dX9_word__38 rfl rfl ?_
        refine g_iadd C dX9_word__39 ?_
        obtain ⟨b7, hs⟩ := vg_ok hs
        refine g_iald C 1 rfl (vin_ok b7) dX9_word__40 ?_
        refine g_goto (tgt := 49) C dX9_word__41 (by decide) ?_
        cases hs
        exact hR _ _ dX9_word__49
    · replace hs := vi_t hs c4
      refine g_iconst (v := (-1)) C dX9_word__20 rfl ?_
      cases hs
      exact hR _ _ dX9_word__21
def sX9_forbidden (f_post : Nat → Int32) (x1 : Int32) : Option (Int32) :=
  vb (sX9_isSign f_post x1) fun z1 =>
  vi (z1 = 0) inferInstance (
    some ((-1))) (
    some (((f_post (Int32.toNatClampNeg (nI 3))) >>> (x1 &&& 31)) &&& (nI 1)))
abbrev rmX9_forbidden : Room := { frames := 2, cells := 0, slots := 0, locals := 46 }
set_option maxHeartbeats 4000000 in
set_option maxRecDepth 100000 in
theorem cX9_forbidden_ct (l : Launch) (D : va_G) (cI : ClassId) (h : Nat) (a_post : Nat) (a_read : Nat) (a_now : Nat) (a_aside : Nat) (a_past : Nat) (a_kept : Nat) (a_sights : Nat) (a_text : Nat) (a_weights : Nat) (a_tried : Nat) (a_row : Nat) (a_who : Nat) (a_order : Nat) (a_bestOrder : Nat) (a_costs : Nat) (a_taken : Nat) (f_undos : Int32) (f_keptMany : Int32) (f_sightMany : Int32) (f_size : Int32) (f_at : Int32) (f_value : Int32) (f_above : Int64) (f_below : Int64) (f_paid : Int32) (f_post : Nat → Int32) (x1 : Int32) {z : Int32} (hs : sX9_forbidden f_post x1 = some z) : ct l yX9_forbidden (.code yX9_forbidden cX9_forbidden 2 (some .int) :: gtb) rmX9_forbidden D cI [.ref h, .int x1] [oX9 h a_post a_read a_now a_aside a_past f_undos a_kept f_keptMany a_sights f_sightMany a_text f_size f_at f_value a_weights a_tried f_above f_below f_paid a_row a_who a_order a_bestOrder a_costs a_taken, aI cI a_post 52 f_post] (some (.int z)) [oX9 h a_post a_read a_now a_aside a_past f_undos a_kept f_keptMany a_sights f_sightMany a_text f_size f_at f_value a_weights a_tried f_above f_below f_paid a_row a_who a_order a_bestOrder a_costs a_taken, aI cI a_post 52 f_post] := by
  refine ct_ofI (own := RX9) (by decide +kernel) rfl (Nat.le_of_ble_eq_true rfl) (fun X C hD hR => ?_)
  unfold sX9_forbidden at hs
  show gg cI X 2 0 0 [oX9 h a_post a_read a_now a_aside a_past f_undos a_kept f_keptMany a_sights f_sightMany a_text f_size f_at f_value a_weights a_tried f_above f_below f_paid a_row a_who a_order a_bestOrder a_costs a_taken, aI cI a_post 52 f_post] [(0, .ref h), (1, .int x1)] 0 []
  refine g_aload_n (pl := 0) C dX9_forbidden_0 rfl rfl ?_
  refine g_iload_n (pl := 1) C dX9_forbidden_1 rfl rfl ?_
  obtain ⟨z1, e_z1, hs⟩ := vb_ok hs
  refine g_callV (ws' := [oX9 h a_post a_read a_now a_aside a_past f_undos a_kept f_keptMany a_sights f_sightMany a_text f_size f_at f_value a_weights a_tried f_above f_below f_paid a_row a_who a_order a_bestOrder a_costs a_taken, aI cI a_post 52 f_post]) (rest := []) (st' := [.int z1]) C mX9_162 q5_49 [.int x1] (fun l D => cX9_isSign_ct l D cI h a_post a_read a_now a_aside a_past a_kept a_sights a_text a_weights a_tried a_row a_who a_order a_bestOrder a_costs a_taken f_undos f_keptMany f_sightMany f_size f_at f_value f_above f_below f_paid f_post x1 e_z1) ⟨⟨rfl, rfl⟩, Nat.le_of_ble_eq_true rfl, Nat.le_of_ble_eq_true rfl⟩ 0 rfl rfl rfl [0, 1] rfl rfl rfl rfl rfl (Nat.le_of_ble_eq_true rfl) (Nat.zero_le _) (Nat.zero_le _) rfl dX9_forbidden_2 ?_
  refine g_if_eq (tgt := 21) C dX9_forbidden_5 (by decide) (fun c2 => ?_) (fun c2 => ?_)
  · replace hs := vi_t hs c2
    refine g_iconst (v := (-1)) C dX9_forbidden_21 rfl ?_
    cases hs
    exact hR _ _ dX9_forbidden_22
  · replace hs := vi_f hs c2
    refine g_aload_n (pl := 0) C dX9_forbidden_8 rfl rfl ?_
    refine g_get C fX9_7 0 rfl rfl dX9_forbidden_9 ?_
    refine g_iconst (v := (nI 3)) C dX9_forbidden_12 rfl ?_
    refine g_iald C 1 rfl (vin_ok rfl) dX9_forbidden_13 ?_
    refine g_iload_n (pl := 1) C dX9_forbidden_14 rfl rfl ?_
    refine g_ishr C dX9_forbidden_15 ?_
    refine g_iconst (v := (nI 1)) C dX9_forbidden_16 rfl ?_
    refine g_iand C dX9_forbidden_17 ?_
    refine g_goto (tgt := 22) C dX9_forbidden_18 (by decide) ?_
    cases hs
    exact hR _ _ dX9_forbidden_22
def sX9_actor_ (f_post : Nat → Int32) (f_now : Nat → Int32) (x1 : Int32) (x2 : Int32) : Option (Int32) :=
  vb (sX9_isActor f_post x1) fun z1 =>
  vi (z1 = 0) inferInstance (
    some ((-1))) (
    vi (x2 = (nI 0)) inferInstance (
      vg (vin ((nI 37) + x1) 52) (
      some (f_post (Int32.toNatClampNeg ((nI 37) + x1))))) (
      vi (x2 = (nI 1)) inferInstance (
        vg (vin ((((nI 5) * x2) - (nI 5)) + x1) 50) (
        some (f_now (Int32.toNatClampNeg ((((nI 5) * x2) - (nI 5)) + x1))))) (
        vi (x2 = (nI 2)) inferInstance (
          vg (vin ((((nI 5) * x2) - (nI 5)) + x1) 50) (
          some (f_now (Int32.toNatClampNeg ((((nI 5) * x2) - (nI 5)) + x1))))) (
          vi (x2 = (nI 3)) inferInstance (
            vg (vin ((((nI 5) * x2) - (nI 5)) + x1) 50) (
            some (f_now (Int32.toNatClampNeg ((((nI 5) * x2) - (nI 5)) + x1))))) (
            vi (x2 = (nI 4)) inferInstance (
              vg (vin ((((nI 5) * x2) - (nI 5)) + x1) 50) (
              some (f_now (Int32.toNatClampNeg ((((nI 5) * x2) - (nI 5)) + x1))))) (
              vi (x2 = (nI 5)) inferInstance (
                vg (vin ((((nI 5) * x2) - (nI 5)) + x1) 50) (
                some (f_now (Int32.toNatClampNeg ((((nI 5) * x2) - (nI 5)) + x1))))) (
                some ((-1)))))))))
abbrev rmX9_actor_ : Room := { frames := 2, cells := 0, slots := 0, locals := 46 }
set_option maxHeartbeats 4000000 in
set_option maxRecDepth 100000 in
theorem cX9_actor__ct (l : Launch) (D : va_G) (cI : ClassId) (h : Nat) (a_post : Nat) (a_read : Nat) (a_now : Nat) (a_aside : Nat) (a_past : Nat) (a_kept : Nat) (a_sights : Nat) (a_text : Nat) (a_weights : Nat) (a_tried : Nat) (a_row : Nat) (a_who : Nat) (a_order : Nat) (a_bestOrder : Nat) (a_costs : Nat) (a_taken : Nat) (f_undos : Int32) (f_keptMany : Int32) (f_sightMany : Int32) (f_size : Int32) (f_at : Int32) (f_value : Int32) (f_above : Int64) (f_below : Int64) (f_paid : Int32) (f_post : Nat → Int32) (f_now : Nat → Int32) (x1 : Int32) (x2 : Int32) {z : Int32} (hs : sX9_actor_ f_post f_now x1 x2 = some z) : ct l yX9_actor_ (.code yX9_actor_ cX9_actor_ 3 (some .int) :: gtb) rmX9_actor_ D cI [.ref h, .int x1, .int x2] [oX9 h a_post a_read a_now a_aside a_past f_undos a_kept f_keptMany a_sights f_sightMany a_text f_size f_at f_value a_weights a_tried f_above f_below f_paid a_row a_who a_order a_bestOrder a_costs a_taken, aI cI a_post 52 f_post, aI cI a_now 50 f_now] (some (.int z)) [oX9 h a_post a_read a_now a_aside a_past f_undos a_kept f_keptMany a_sights f_sightMany a_text f_size f_at f_value a_weights a_tried f_above f_below f_paid a_row a_who a_order a_bestOrder a_costs a_taken, aI cI a_post 52 f_post, aI cI a_now 50 f_now] := by
  refine ct_ofI (own := RX9) (by decide +kernel) rfl (Nat.le_of_ble_eq_true rfl) (fun X C hD hR => ?_)
  unfold sX9_actor_ at hs
  show gg cI X 3 0 0 [oX9 h a_post a_read a_now a_aside a_past f_undos a_kept f_keptMany a_sights f_sightMany a_text f_size f_at f_value a_weights a_tried f_above f_below f_paid a_row a_who a_order a_bestOrder a_costs a_taken, aI cI a_post 52 f_post, aI cI a_now 50 f_now] [(0, .ref h), (1, .int x1), (2, .int x2)] 0 []
  refine g_aload_n (pl := 0) C dX9_actor__0 rfl rfl ?_
  refine g_iload_n (pl := 1) C dX9_actor__1 rfl rfl ?_
  obtain ⟨z1, e_z1, hs⟩ := vb_ok hs
  refine g_callV (ws' := [oX9 h a_post a_read a_now a_aside a_past f_undos a_kept f_keptMany a_sights f_sightMany a_text f_size f_at f_value a_weights a_tried f_above f_below f_paid a_row a_who a_order a_bestOrder a_costs a_taken, aI cI a_post 52 f_post, aI cI a_now 50 f_now]) (rest := []) (st' := [.int z1]) C mX9_165 q5_61 [.int x1] (fun l D => cX9_isActor_ct l D cI h a_post a_read a_now a_aside a_past a_kept a_sights a_text a_weights a_tried a_row a_who a_order a_bestOrder a_costs a_taken f_undos f_keptMany f_sightMany f_size f_at f_value f_above f_below f_paid f_post x1 e_z1) ⟨⟨rfl, rfl⟩, Nat.le_of_ble_eq_true rfl, Nat.le_of_ble_eq_true rfl⟩ 0 rfl rfl rfl [0, 1] rfl rfl rfl rfl rfl (Nat.le_of_ble_eq_true rfl) (Nat.zero_le _) (Nat.zero_le _) rfl dX9_actor__2 ?_
  refine g_if_ne (tgt := 10) C dX9_actor__5 (by decide) (fun c2 => ?_) (fun c2 => ?_)
  · replace hs := vi_f hs c2
    refine g_iload_n (pl := 2) C dX9_actor__10 rfl rfl ?_
    by_cases c3 : x2 = (nI 0)
    · replace hs := vi_t hs c3
      refine g_tableIn (tgt := 48) (off := 37) C dX9_actor__11 (by rw [c3]; decide) (by rw [c3]; decide) (by rw [c3]; decide) (by decide) ?_
      refine g_aload_n (pl := 0) C dX9_actor__48 rfl rfl ?_
      refine g_get C fX9_7 0 rfl rfl dX9_actor__49 ?_
      refine g_bipush (v := (nI 37)) C dX9_actor__52 rfl ?_
      refine g_iload_n (pl := 1) C dX9_actor__54 rfl rfl ?_
      refine g_iadd C dX9_actor__55 ?_
      obtain ⟨b4, hs⟩ := vg_ok hs
      refine g_iald C 1 rfl (vin_ok b4) dX9_actor__56 ?_
      cases hs
      exact hR _ _ dX9_actor__57
    · replace hs := vi_f hs c3
      by_cases c5 : x2 = (nI 1)
      · replace hs := vi_t hs c5
        refine g_tableIn (tgt := 58) (off := 47) C dX9_actor__11 (by rw [c5]; decide) (by rw [c5]; decide) (by rw [c5]; decide) (by decide) ?_
        refine g_aload_n (pl := 0) C dX9_actor__58 rfl rfl ?_
        refine g_get C fX9_16 0 rfl rfl dX9_actor__59 ?_
        refine g_iconst (v := (nI 5)) C dX9_actor__62 rfl ?_
        refine g_iload_n (pl := 2) C dX9_actor__63 rfl rfl ?_
        refine g_imul C dX9_actor__64 ?_
        refine g_iconst (v := (nI 5)) C dX9_actor__65 rfl ?_
        refine g_isub C dX9_actor__66 ?_
        refine g_iload_n (pl := 1) C dX9_actor__67 rfl rfl ?_
        refine g_iadd C dX9_actor__68 ?_
        obtain ⟨b6, hs⟩ := vg_ok hs
        refine g_iald C 2 rfl (vin_ok b6) dX9_actor__69 ?_
        cases hs
        exact hR _ _ dX9_actor__70
      · replace hs := vi_f hs c5
        by_cases c7 : x2 = (nI 2)
        · replace hs := vi_t hs c7
          refine g_tableIn (tgt := 58) (off := 47) C dX9_actor__11 (by rw [c7]; decide) (by rw [c7]; decide) (by rw [c7]; decide) (by decide) ?_
          refine g_aload_n (pl := 0) C dX9_actor__58 rfl rfl ?_
          refine g_get C fX9_16 0 rfl rfl dX9_actor__59 ?_
          refine g_iconst (v := (nI 5)) C dX9_actor__62 rfl ?_
          refine g_iload_n (pl := 2) C dX9_actor__63 rfl rfl ?_
          refine g_imul C dX9_actor__64 ?_
          refine g_iconst (v := (nI 5)) C dX9_actor__65 rfl ?_
          refine g_isub C dX9_actor__66 ?_
          refine g_iload_n (pl := 1) C dX9_actor__67 rfl rfl ?_
          refine g_iadd C dX9_actor__68 ?_
          obtain ⟨b8, hs⟩ := vg_ok hs
          refine g_iald C 2 rfl (vin_ok b8) dX9_actor__69 ?_
          cases hs
          exact hR _ _ dX9_actor__70
        · replace hs := vi_f hs c7
          by_cases c9 : x2 = (nI 3)
          · replace hs := vi_t hs c9
            refine g_tableIn (tgt := 58) (off := 47) C dX9_actor__11 (by rw [c9]; decide) (by rw [c9]; decide) (by rw [c9]; decide) (by decide) ?_
            refine g_aload_n (pl := 0) C dX9_actor__58 rfl rfl ?_
            refine g_get C fX9_16 0 rfl rfl dX9_actor__59 ?_
            refine g_iconst (v := (nI 5)) C dX9_actor__62 rfl ?_
            refine g_iload_n (pl := 2) C dX9_actor__63 rfl rfl ?_
            refine g_imul C dX9_actor__64 ?_
            refine g_iconst (v := (nI 5)) C dX9_actor__65 rfl ?_
            refine g_isub C dX9_actor__66 ?_
            refine g_iload_n (pl := 1) C dX9_actor__67 rfl rfl ?_
            refine g_iadd C dX9_actor__68 ?_
            obtain ⟨b10, hs⟩ := vg_ok hs
            refine g_iald C 2 rfl (vin_ok b10) dX9_actor__69 ?_
            cases hs
            exact hR _ _ dX9_actor__70
          · replace hs := vi_f hs c9
            by_cases c11 : x2 = (nI 4)
            · replace hs := vi_t hs c11
              refine g_tableIn (tgt := 58) (off := 47) C dX9_actor__11 (by rw [c11]; decide) (by rw [c11]; decide) (by rw [c11]; decide) (by decide) ?_
              refine g_aload_n (pl := 0) C dX9_actor__58 rfl rfl ?_
              refine g_get C fX9_16 0 rfl rfl dX9_actor__59 ?_
              refine g_iconst (v := (nI 5)) C dX9_actor__62 rfl ?_
              refine g_iload_n (pl := 2) C dX9_actor__63 rfl rfl ?_
              refine g_imul C dX9_actor__64 ?_
              refine g_iconst (v := (nI 5)) C dX9_actor__65 rfl ?_
              refine g_isub C dX9_actor__66 ?_
              refine g_iload_n (pl := 1) C dX9_actor__67 rfl rfl ?_
              refine g_iadd C dX9_actor__68 ?_
              obtain ⟨b12, hs⟩ := vg_ok hs
              refine g_iald C 2 rfl (vin_ok b12) dX9_actor__69 ?_
              cases hs
              exact hR _ _ dX9_actor__70
            · replace hs := vi_f hs c11
              by_cases c13 : x2 = (nI 5)
              · replace hs := vi_t hs c13
                refine g_tableIn (tgt := 58) (off := 47) C dX9_actor__11 (by rw [c13]; decide) (by rw [c13]; decide) (by rw [c13]; decide) (by decide) ?_
                refine g_aload_n (pl := 0) C dX9_actor__58 rfl rfl ?_
                refine g_get C fX9_16 0 rfl rfl dX9_actor__59 ?_
                refine g_iconst (v := (nI 5)) C dX9_actor__62 rfl ?_
                refine g_iload_n (pl := 2) C dX9_actor__63 rfl rfl ?_
                refine g_imul C dX9_actor__64 ?_
                refine g_iconst (v := (nI 5)) C dX9_actor__65 rfl ?_
                refine g_isub C dX9_actor__66 ?_
                refine g_iload_n (pl := 1) C dX9_actor__67 rfl rfl ?_
                refine g_iadd C dX9_actor__68 ?_
                obtain ⟨b14, hs⟩ := vg_ok hs
                refine g_iald C 2 rfl (vin_ok b14) dX9_actor__69 ?_
                cases hs
                exact hR _ _ dX9_actor__70
              · replace hs := vi_f hs c13
                refine g_tableOut (tgt := 71) C dX9_actor__11 (tsw_out 5 (fun k hk => match k, hk with | 0, _ => c3 | 1, _ => c5 | 2, _ => c7 | 3, _ => c9 | 4, _ => c11 | 5, _ => c13 | k + 6, h => absurd h (by omega))) (by decide) ?_
                refine g_iconst (v := (-1)) C dX9_actor__71 rfl ?_
                cases hs
                exact hR _ _ dX9_actor__72
  · replace hs := vi_t hs c2
    refine g_iconst (v := (-1)) C dX9_actor__8 rfl ?_
    cases hs
    exact hR _ _ dX9_actor__9
def sX9_shown (f_post : Nat → Int32) (f_now : Nat → Int32) (x1 : Int32) (x2 : Int32) : Option (Int32) :=
  vb (sX9_isActor f_post x1) fun z1 =>
  vi (z1 = 0) inferInstance (
    some ((-1))) (
    vi (0 ≤ x2) inferInstance (
      vg (vin ((nI 10) + x1) 50) (
      vi ((f_now (Int32.toNatClampNeg ((nI 10) + x1))) ≤ x2) inferInstance (
        some ((-4))) (
        vg (vin (((nI 25) + ((nI 5) * x1)) + x2) 50) (
        some (f_now (Int32.toNatClampNeg (((nI 25) + ((nI 5) * x1)) + x2))))))) (
      some ((-1))))
abbrev rmX9_shown : Room := { frames := 2, cells := 0, slots := 0, locals := 46 }
set_option maxHeartbeats 4000000 in
set_option maxRecDepth 100000 in
theorem cX9_shown_ct (l : Launch) (D : va_G) (cI : ClassId) (h : Nat) (a_post : Nat) (a_read : Nat) (a_now : Nat) (a_aside : Nat) (a_past : Nat) (a_kept : Nat) (a_sights : Nat) (a_text : Nat) (a_weights : Nat) (a_tried : Nat) (a_row : Nat) (a_who : Nat) (a_order : Nat) (a_bestOrder : Nat) (a_costs : Nat) (a_taken : Nat) (f_undos : Int32) (f_keptMany : Int32) (f_sightMany : Int32) (f_size : Int32) (f_at : Int32) (f_value : Int32) (f_above : Int64) (f_below : Int64) (f_paid : Int32) (f_post : Nat → Int32) (f_now : Nat → Int32) (x1 : Int32) (x2 : Int32) {z : Int32} (hs : sX9_shown f_post f_now x1 x2 = some z) : ct l yX9_shown (.code yX9_shown cX9_shown 3 (some .int) :: gtb) rmX9_shown D cI [.ref h, .int x1, .int x2] [oX9 h a_post a_read a_now a_aside a_past f_undos a_kept f_keptMany a_sights f_sightMany a_text f_size f_at f_value a_weights a_tried f_above f_below f_paid a_row a_who a_order a_bestOrder a_costs a_taken, aI cI a_post 52 f_post, aI cI a_now 50 f_now] (some (.int z)) [oX9 h a_post a_read a_now a_aside a_past f_undos a_kept f_keptMany a_sights f_sightMany a_text f_size f_at f_value a_weights a_tried f_above f_below f_paid a_row a_who a_order a_bestOrder a_costs a_taken, aI cI a_post 52 f_post, aI cI a_now 50 f_now] := by
  refine ct_ofI (own := RX9) (by decide +kernel) rfl (Nat.le_of_ble_eq_true rfl) (fun X C hD hR => ?_)
  unfold sX9_shown at hs
  show gg cI X 3 0 0 [oX9 h a_post a_read a_now a_aside a_past f_undos a_kept f_keptMany a_sights f_sightMany a_text f_size f_at f_value a_weights a_tried f_above f_below f_paid a_row a_who a_order a_bestOrder a_costs a_taken, aI cI a_post 52 f_post, aI cI a_now 50 f_now] [(0, .ref h), (1, .int x1), (2, .int x2)] 0 []
  refine g_aload_n (pl := 0) C dX9_shown_0 rfl rfl ?_
  refine g_iload_n (pl := 1) C dX9_shown_1 rfl rfl ?_
  obtain ⟨z1, e_z1, hs⟩ := vb_ok hs
  refine g_callV (ws' := [oX9 h a_post a_read a_now a_aside a_past f_undos a_kept f_keptMany a_sights f_sightMany a_text f_size f_at f_value a_weights a_tried f_above f_below f_paid a_row a_who a_order a_bestOrder a_costs a_taken, aI cI a_post 52 f_post, aI cI a_now 50 f_now]) (rest := []) (st' := [.int z1]) C mX9_165 q5_61 [.int x1] (fun l D => cX9_isActor_ct l D cI h a_post a_read a_now a_aside a_past a_kept a_sights a_text a_weights a_tried a_row a_who a_order a_bestOrder a_costs a_taken f_undos f_keptMany f_sightMany f_size f_at f_value f_above f_below f_paid f_post x1 e_z1) ⟨⟨rfl, rfl⟩, Nat.le_of_ble_eq_true rfl, Nat.le_of_ble_eq_true rfl⟩ 0 rfl rfl rfl [0, 1] rfl rfl rfl rfl rfl (Nat.le_of_ble_eq_true rfl) (Nat.zero_le _) (Nat.zero_le _) rfl dX9_shown_2 ?_
  refine g_if_eq (tgt := 12) C dX9_shown_5 (by decide) (fun c2 => ?_) (fun c2 => ?_)
  · replace hs := vi_t hs c2
    refine g_iconst (v := (-1)) C dX9_shown_12 rfl ?_
    cases hs
    exact hR _ _ dX9_shown_13
  · replace hs := vi_f hs c2
    refine g_iload_n (pl := 2) C dX9_shown_8 rfl rfl ?_
    refine g_if_ge (tgt := 14) C dX9_shown_9 (by decide) (fun c3 => ?_) (fun c3 => ?_)
    · replace hs := vi_t hs c3
      refine g_iload_n (pl := 2) C dX9_shown_14 rfl rfl ?_
      refine g_aload_n (pl := 0) C dX9_shown_15 rfl rfl ?_
      refine g_get C fX9_16 0 rfl rfl dX9_shown_16 ?_
      refine g_bipush (v := (nI 10)) C dX9_shown_19 rfl ?_
      refine g_iload_n (pl := 1) C dX9_shown_21 rfl rfl ?_
      refine g_iadd C dX9_shown_22 ?_
      obtain ⟨b4, hs⟩ := vg_ok hs
      refine g_iald C 2 rfl (vin_ok b4) dX9_shown_23 ?_
      refine g_icmp_ge (tgt := 43) C dX9_shown_24 (by decide) (fun c5 => ?_) (fun c5 => ?_)
      · replace hs := vi_t hs c5
        refine g_bipush (v := (-4)) C dX9_shown_43 rfl ?_
        cases hs
        exact hR _ _ dX9_shown_45
      · replace hs := vi_f hs c5
        refine g_aload_n (pl := 0) C dX9_shown_27 rfl rfl ?_
        refine g_get C fX9_16 0 rfl rfl dX9_shown_28 ?_
        refine g_bipush (v := (nI 25)) C dX9_shown_31 rfl ?_
        refine g_iconst (v := (nI 5)) C dX9_shown_33 rfl ?_
        refine g_iload_n (pl := 1) C dX9_shown_34 rfl rfl ?_
        refine g_imul C dX9_shown_35 ?_
        refine g_iadd C dX9_shown_36 ?_
        refine g_iload_n (pl := 2) C dX9_shown_37 rfl rfl ?_
        refine g_iadd C dX9_shown_38 ?_
        obtain ⟨b6, hs⟩ := vg_ok hs
        refine g_iald C 2 rfl (vin_ok b6) dX9_shown_39 ?_
        refine g_goto (tgt := 45) C dX9_shown_40 (by decide) ?_
        cases hs
        exact hR _ _ dX9_shown_45
    · replace hs := vi_f hs c3
      refine g_iconst (v := (-1)) C dX9_shown_12 rfl ?_
      cases hs
      exact hR _ _ dX9_shown_13
def sX9_byPart (f_post : Nat → Int32) (x1 : Int32) (x2 : Int32) (x3 : Int32) (x4 : Int32) : Option (Int32) :=
  vi (x1 = (nI 1)) inferInstance (
    vlet ((x3 + (nI 1)) - (x3 + (nI 1)) / (nI 6) * (nI 6)) fun y6 =>
    vg (vin ((nI 23) + x2) 52) (
    vb (sX9_has (f_post (Int32.toNatClampNeg ((nI 23) + x2))) y6) fun z8 =>
    vi (z8 = 0) inferInstance (
      some ((nI 1))) (
      vi (x1 = (nI 2)) inferInstance (
        some (x4 * x4)) (
        some (x4))))) (
    vg (vin ((nI 23) + x2) 52) (
    vb (sX9_has (f_post (Int32.toNatClampNeg ((nI 23) + x2))) x3) fun z3 =>
    vi (z3 = 0) inferInstance (
      some ((nI 1))) (
      vi (x1 = (nI 2)) inferInstance (
        some (x4 * x4)) (
        some (x4)))))
abbrev rmX9_byPart : Room := { frames := 1, cells := 0, slots := 0, locals := 21 }
set_option maxHeartbeats 4000000 in
set_option maxRecDepth 100000 in
theorem cX9_byPart_ct (l : Launch) (D : va_G) (cI : ClassId) (h : Nat) (a_post : Nat) (a_read : Nat) (a_now : Nat) (a_aside : Nat) (a_past : Nat) (a_kept : Nat) (a_sights : Nat) (a_text : Nat) (a_weights : Nat) (a_tried : Nat) (a_row : Nat) (a_who : Nat) (a_order : Nat) (a_bestOrder : Nat) (a_costs : Nat) (a_taken : Nat) (f_undos : Int32) (f_keptMany : Int32) (f_sightMany : Int32) (f_size : Int32) (f_at : Int32) (f_value : Int32) (f_above : Int64) (f_below : Int64) (f_paid : Int32) (f_post : Nat → Int32) (x1 : Int32) (x2 : Int32) (x3 : Int32) (x4 : Int32) {z : Int32} (hs : sX9_byPart f_post x1 x2 x3 x4 = some z) : ct l yX9_byPart (.code yX9_byPart cX9_byPart 6 (some .int) :: gtb) rmX9_byPart D cI [.ref h, .int x1, .int x2, .int x3, .int x4] [oX9 h a_post a_read a_now a_aside a_past f_undos a_kept f_keptMany a_sights f_sightMany a_text f_size f_at f_value a_weights a_tried f_above f_below f_paid a_row a_who a_order a_bestOrder a_costs a_taken, aI cI a_post 52 f_post] (some (.int z)) [oX9 h a_post a_read a_now a_aside a_past f_undos a_kept f_keptMany a_sights f_sightMany a_text f_size f_at f_value a_weights a_tried f_above f_below f_paid a_row a_who a_order a_bestOrder a_costs a_taken, aI cI a_post 52 f_post] := by
  refine ct_ofI (own := RX9) (by decide +kernel) rfl (Nat.le_of_ble_eq_true rfl) (fun X C hD hR => ?_)
  unfold sX9_byPart at hs
  show gg cI X 6 0 0 [oX9 h a_post a_read a_now a_aside a_past f_undos a_kept f_keptMany a_sights f_sightMany a_text f_size f_at f_value a_weights a_tried f_above f_below f_paid a_row a_who a_order a_bestOrder a_costs a_taken, aI cI a_post 52 f_post] [(0, .ref h), (1, .int x1), (2, .int x2), (3, .int x3), (4, .int x4)] 0 []
  refine g_iload_n (pl := 1) C dX9_byPart_0 rfl rfl ?_
  refine g_iconst (v := (nI 1)) C dX9_byPart_1 rfl ?_
  refine g_icmp_ne (tgt := 14) C dX9_byPart_2 (by decide) (fun c1 => ?_) (fun c1 => ?_)
  · replace hs := vi_f hs c1
    refine g_iload_n (pl := 3) C dX9_byPart_14 rfl rfl ?_
    refine g_istore (lv' := [(5, .int x3), (0, .ref h), (1, .int x1), (2, .int x2), (3, .int x3), (4, .int x4)]) C dX9_byPart_15 (by decide) rfl ?_
    refine g_aload_n (pl := 1) C dX9_byPart_17 rfl rfl ?_
    refine g_get C fX9_7 0 rfl rfl dX9_byPart_18 ?_
    refine g_bipush (v := (nI 23)) C dX9_byPart_21 rfl ?_
    refine g_iload_n (pl := 3) C dX9_byPart_23 rfl rfl ?_
    refine g_iadd C dX9_byPart_24 ?_
    obtain ⟨b2, hs⟩ := vg_ok hs
    refine g_iald C 1 rfl (vin_ok b2) dX9_byPart_25 ?_
    refine g_iload (pl := 0) C dX9_byPart_26 rfl ?_
    obtain ⟨z3, e_z3, hs⟩ := vb_ok hs
    refine g_callS (ws' := [oX9 h a_post a_read a_now a_aside a_past f_undos a_kept f_keptMany a_sights f_sightMany a_text f_size f_at f_value a_weights a_tried f_above f_below f_paid a_row a_who a_order a_bestOrder a_costs a_taken, aI cI a_post 52 f_post]) (rest := []) (st' := [.int z3]) C mX9_120 q5_6 [.int (f_post (Int32.toNatClampNeg ((nI 23) + x2))), .int x3] (fun l D => cX9_has_ct l D cI (f_post (Int32.toNatClampNeg ((nI 23) + x2))) x3 e_z3) ⟨⟨rfl, rfl⟩, Nat.le_of_ble_eq_true rfl, Nat.le_of_ble_eq_true rfl⟩ rfl [] rfl rfl rfl rfl rfl (Nat.le_of_ble_eq_true rfl) (Nat.zero_le _) (Nat.zero_le _) rfl dX9_byPart_28 ?_
    refine g_if_ne (tgt := 38) C dX9_byPart_31 (by decide) (fun c4 => ?_) (fun c4 => ?_)
    · replace hs := vi_f hs c4
      refine g_iload_n (pl := 2) C dX9_byPart_38 rfl rfl ?_
      refine g_iconst (v := (nI 2)) C dX9_byPart_39 rfl ?_
      refine g_icmp_ne (tgt := 51) C dX9_byPart_40 (by decide) (fun c5 => ?_) (fun c5 => ?_)
      · replace hs := vi_f hs c5
        refine g_iload (pl := 5) C dX9_byPart_51 rfl ?_
        cases hs
        exact hR _ _ dX9_byPart_53
      · replace hs := vi_t hs c5
        refine g_iload (pl := 5) C dX9_byPart_43 rfl ?_
        refine g_iload (pl := 5) C dX9_byPart_45 rfl ?_
        refine g_imul C dX9_byPart_47 ?_
        refine g_goto (tgt := 53) C dX9_byPart_48 (by decide) ?_
        cases hs
        exact hR _ _ dX9_byPart_53
    · replace hs := vi_t hs c4
      refine g_iconst (v := (nI 1)) C dX9_byPart_34 rfl ?_
      refine g_goto (tgt := 53) C dX9_byPart_35 (by decide) ?_
      cases hs
      exact hR _ _ dX9_byPart_53
  · replace hs := vi_t hs c1
    refine g_iload_n (pl := 3) C dX9_byPart_5 rfl rfl ?_
    refine g_iconst (v := (nI 1)) C dX9_byPart_6 rfl ?_
    refine g_iadd C dX9_byPart_7 ?_
    refine g_bipush (v := (nI 6)) C dX9_byPart_8 rfl ?_
    refine g_irem C dX9_byPart_10 (by decide) ?_
    refine g_goto (tgt := 15) C dX9_byPart_11 (by decide) ?_
    obtain ⟨y6, e_y6, hs⟩ := vlet_ex hs
    refine g_topi e_y6 ?_
    refine g_istore (lv' := [(5, .int y6), (0, .ref h), (1, .int x1), (2, .int x2), (3, .int x3), (4, .int x4)]) C dX9_byPart_15 (by decide) rfl ?_
    refine g_aload_n (pl := 1) C dX9_byPart_17 rfl rfl ?_
    refine g_get C fX9_7 0 rfl rfl dX9_byPart_18 ?_
    refine g_bipush (v := (nI 23)) C dX9_byPart_21 rfl ?_
    refine g_iload_n (pl := 3) C dX9_byPart_23 rfl rfl ?_
    refine g_iadd C dX9_byPart_24 ?_
    obtain ⟨b7, hs⟩ := vg_ok hs
    refine g_iald C 1 rfl (vin_ok b7) dX9_byPart_25 ?_
    refine g_iload (pl := 0) C dX9_byPart_26 rfl ?_
    obtain ⟨z8, e_z8, hs⟩ := vb_ok hs
    refine g_callS (ws' := [oX9 h a_post a_read a_now a_aside a_past f_undos a_kept f_keptMany a_sights f_sightMany a_text f_size f_at f_value a_weights a_tried f_above f_below f_paid a_row a_who a_order a_bestOrder a_costs a_taken, aI cI a_post 52 f_post]) (rest := []) (st' := [.int z8]) C mX9_120 q5_6 [.int (f_post (Int32.toNatClampNeg ((nI 23) + x2))), .int y6] (fun l D => cX9_has_ct l D cI (f_post (Int32.toNatClampNeg ((nI 23) + x2))) y6 e_z8) ⟨⟨rfl, rfl⟩, Nat.le_of_ble_eq_true rfl, Nat.le_of_ble_eq_true rfl⟩ rfl [] rfl rfl rfl rfl rfl (Nat.le_of_ble_eq_true rfl) (Nat.zero_le _) (Nat.zero_le _) rfl dX9_byPart_28 ?_
    refine g_if_ne (tgt := 38) C dX9_byPart_31 (by decide) (fun c9 => ?_) (fun c9 => ?_)
    · replace hs := vi_f hs c9
      refine g_iload_n (pl := 2) C dX9_byPart_38 rfl rfl ?_
      refine g_iconst (v := (nI 2)) C dX9_byPart_39 rfl ?_
      refine g_icmp_ne (tgt := 51) C dX9_byPart_40 (by decide) (fun c10 => ?_) (fun c10 => ?_)
      · replace hs := vi_f hs c10
        refine g_iload (pl := 5) C dX9_byPart_51 rfl ?_
        cases hs
        exact hR _ _ dX9_byPart_53
      · replace hs := vi_t hs c10
        refine g_iload (pl := 5) C dX9_byPart_43 rfl ?_
        refine g_iload (pl := 5) C dX9_byPart_45 rfl ?_
        refine g_imul C dX9_byPart_47 ?_
        refine g_goto (tgt := 53) C dX9_byPart_48 (by decide) ?_
        cases hs
        exact hR _ _ dX9_byPart_53
    · replace hs := vi_t hs c9
      refine g_iconst (v := (nI 1)) C dX9_byPart_34 rfl ?_
      refine g_goto (tgt := 53) C dX9_byPart_35 (by decide) ?_
      cases hs
      exact hR _ _ dX9_byPart_53
def sX9_byLikeness (f_post : Nat → Int32) (x1 : Int32) (x2 : Int32) (x3 : Int32) (x4 : Int32) : Option (Int32) :=
  vg (vin ((nI 31) + x3) 52) (
  vb (sX9_has (f_post (Int32.toNatClampNeg ((nI 31) + x3))) x2) fun z2 =>
  vi (z2 = 0) inferInstance (
    some ((nI 1))) (
    vi (x1 = (nI 3)) inferInstance (
      some (x4 + (nI 1))) (
      vi (x1 = (nI 2)) inferInstance (
        some (x4 * x4)) (
        some (x4)))))
abbrev rmX9_byLikeness : Room := { frames := 1, cells := 0, slots := 0, locals := 21 }
set_option maxHeartbeats 4000000 in
set_option maxRecDepth 100000 in
theorem cX9_byLikeness_ct (l : Launch) (D : va_G) (cI : ClassId) (h : Nat) (a_post : Nat) (a_read : Nat) (a_now : Nat) (a_aside : Nat) (a_past : Nat) (a_kept : Nat) (a_sights : Nat) (a_text : Nat) (a_weights : Nat) (a_tried : Nat) (a_row : Nat) (a_who : Nat) (a_order : Nat) (a_bestOrder : Nat) (a_costs : Nat) (a_taken : Nat) (f_undos : Int32) (f_keptMany : Int32) (f_sightMany : Int32) (f_size : Int32) (f_at : Int32) (f_value : Int32) (f_above : Int64) (f_below : Int64) (f_paid : Int32) (f_post : Nat → Int32) (x1 : Int32) (x2 : Int32) (x3 : Int32) (x4 : Int32) {z : Int32} (hs : sX9_byLikeness f_post x1 x2 x3 x4 = some z) : ct l yX9_byLikeness (.code yX9_byLikeness cX9_byLikeness 5 (some .int) :: gtb) rmX9_byLikeness D cI [.ref h, .int x1, .int x2, .int x3, .int x4] [oX9 h a_post a_read a_now a_aside a_past f_undos a_kept f_keptMany a_sights f_sightMany a_text f_size f_at f_value a_weights a_tried f_above f_below f_paid a_row a_who a_order a_bestOrder a_costs a_taken, aI cI a_post 52 f_post] (some (.int z)) [oX9 h a_post a_read a_now a_aside a_past f_undos a_kept f_keptMany a_sights f_sightMany a_text f_size f_at f_value a_weights a_tried f_above f_below f_paid a_row a_who a_order a_bestOrder a_costs a_taken, aI cI a_post 52 f_post] := by
  refine ct_ofI (own := RX9) (by decide +kernel) rfl (Nat.le_of_ble_eq_true rfl) (fun X C hD hR => ?_)
  unfold sX9_byLikeness at hs
  show gg cI X 5 0 0 [oX9 h a_post a_read a_now a_aside a_past f_undos a_kept f_keptMany a_sights f_sightMany a_text f_size f_at f_value a_weights a_tried f_above f_below f_paid a_row a_who a_order a_bestOrder a_costs a_taken, aI cI a_post 52 f_post] [(0, .ref h), (1, .int x1), (2, .int x2), (3, .int x3), (4, .int x4)] 0 []
  refine g_aload_n (pl := 0) C dX9_byLikeness_0 rfl rfl ?_
  refine g_get C fX9_7 0 rfl rfl dX9_byLikeness_1 ?_
  refine g_bipush (v := (nI 31)) C dX9_byLikeness_4 rfl ?_
  refine g_iload_n (pl := 3) C dX9_byLikeness_6 rfl rfl ?_
  refine g_iadd C dX9_byLikeness_7 ?_
  obtain ⟨b1, hs⟩ := vg_ok hs
  refine g_iald C 1 rfl (vin_ok b1) dX9_byLikeness_8 ?_
  refine g_iload_n (pl := 2) C dX9_byLikeness_9 rfl rfl ?_
  obtain ⟨z2, e_z2, hs⟩ := vb_ok hs
  refine g_callS (ws' := [oX9 h a_post a_read a_now a_aside a_past f_undos a_kept f_keptMany a_sights f_sightMany a_text f_size f_at f_value a_weights a_tried f_above f_below f_paid a_row a_who a_order a_bestOrder a_costs a_taken, aI cI a_post 52 f_post]) (rest := []) (st' := [.int z2]) C mX9_120 q5_6 [.int (f_post (Int32.toNatClampNeg ((nI 31) + x3))), .int x2] (fun l D => cX9_has_ct l D cI (f_post (Int32.toNatClampNeg ((nI 31) + x3))) x2 e_z2) ⟨⟨rfl, rfl⟩, Nat.le_of_ble_eq_true rfl, Nat.le_of_ble_eq_true rfl⟩ rfl [] rfl rfl rfl rfl rfl (Nat.le_of_ble_eq_true rfl) (Nat.zero_le _) (Nat.zero_le _) rfl dX9_byLikeness_10 ?_
  refine g_if_ne (tgt := 18) C dX9_byLikeness_13 (by decide) (fun c3 => ?_) (fun c3 => ?_)
  · replace hs := vi_f hs c3
    refine g_iload_n (pl := 1) C dX9_byLikeness_18 rfl rfl ?_
    refine g_iconst (v := (nI 3)) C dX9_byLikeness_19 rfl ?_
    refine g_icmp_ne (tgt := 30) C dX9_byLikeness_20 (by decide) (fun c4 => ?_) (fun c4 => ?_)
    · replace hs := vi_f hs c4
      refine g_iload_n (pl := 1) C dX9_byLikeness_30 rfl rfl ?_
      refine g_iconst (v := (nI 2)) C dX9_byLikeness_31 rfl ?_
      refine g_icmp_ne (tgt := 43) C dX9_byLikeness_32 (by decide) (fun c5 => ?_) (fun c5 => ?_)
      · replace hs := vi_f hs c5
        refine g_iload (pl := 4) C dX9_byLikeness_43 rfl ?_
        cases hs
        exact hR _ _ dX9_byLikeness_45
      · replace hs := vi_t hs c5
        refine g_iload (pl := 4) C dX9_byLikeness_35 rfl ?_
        refine g_iload (pl := 4) C dX9_byLikeness_37 rfl ?_
        refine g_imul C dX9_byLikeness_39 ?_
        refine g_goto (tgt := 45) C dX9_byLikeness_40 (by decide) ?_
        cases hs
        exact hR _ _ dX9_byLikeness_45
    · replace hs := vi_t hs c4
      refine g_iload (pl := 4) C dX9_byLikeness_23 rfl ?_
      refine g_iconst (v := (nI 1)) C dX9_byLikeness_25 rfl ?_
      refine g_iadd C dX9_byLikeness_26 ?_
      refine g_goto (tgt := 45) C dX9_byLikeness_27 (by decide) ?_
      cases hs
      exact hR _ _ dX9_byLikeness_45
  · replace hs := vi_t hs c3
    refine g_iconst (v := (nI 1)) C dX9_byLikeness_16 rfl ?_
    cases hs
    exact hR _ _ dX9_byLikeness_17
def sX9_times (f_post : Nat → Int32) (x1 : Int32) (x2 : Int32) (x3 : Int32) (x4 : Int32) (x5 : Int32) : Option (Int32) :=
  vi ((nI 6) ≤ x3) inferInstance (
    vi ((nI 9) ≤ x3) inferInstance (
      vb (sX9_byLikeness f_post x1 x2 (x3 - (nI 9)) x4) fun z3 =>
      some (z3)) (
      vg (vin ((nI 15) + x2) 52) (
      vi ((f_post (Int32.toNatClampNeg ((nI 15) + x2))) = (x3 - (nI 5))) inferInstance (
        some ((nI 1))) (
        some ((nI 0)))))) (
    vb (sX9_byPart f_post x1 x2 x3 x5) fun z6 =>
    some (z6))
abbrev rmX9_times : Room := { frames := 2, cells := 0, slots := 0, locals := 46 }
set_option maxHeartbeats 4000000 in
set_option maxRecDepth 100000 in
theorem cX9_times_ct (l : Launch) (D : va_G) (cI : ClassId) (h : Nat) (a_post : Nat) (a_read : Nat) (a_now : Nat) (a_aside : Nat) (a_past : Nat) (a_kept : Nat) (a_sights : Nat) (a_text : Nat) (a_weights : Nat) (a_tried : Nat) (a_row : Nat) (a_who : Nat) (a_order : Nat) (a_bestOrder : Nat) (a_costs : Nat) (a_taken : Nat) (f_undos : Int32) (f_keptMany : Int32) (f_sightMany : Int32) (f_size : Int32) (f_at : Int32) (f_value : Int32) (f_above : Int64) (f_below : Int64) (f_paid : Int32) (f_post : Nat → Int32) (x1 : Int32) (x2 : Int32) (x3 : Int32) (x4 : Int32) (x5 : Int32) {z : Int32} (hs : sX9_times f_post x1 x2 x3 x4 x5 = some z) : ct l yX9_times (.code yX9_times cX9_times 6 (some .int) :: gtb) rmX9_times D cI [.ref h, .int x1, .int x2, .int x3, .int x4, .int x5] [oX9 h a_post a_read a_now a_aside a_past f_undos a_kept f_keptMany a_sights f_sightMany a_text f_size f_at f_value a_weights a_tried f_above f_below f_paid a_row a_who a_order a_bestOrder a_costs a_taken, aI cI a_post 52 f_post] (some (.int z)) [oX9 h a_post a_read a_now a_aside a_past f_undos a_kept f_keptMany a_sights f_sightMany a_text f_size f_at f_value a_weights a_tried f_above f_below f_paid a_row a_who a_order a_bestOrder a_costs a_taken, aI cI a_post 52 f_post] := by
  refine ct_ofI (own := RX9) (by decide +kernel) rfl (Nat.le_of_ble_eq_true rfl) (fun X C hD hR => ?_)
  unfold sX9_times at hs
  show gg cI X 6 0 0 [oX9 h a_post a_read a_now a_aside a_past f_undos a_kept f_keptMany a_sights f_sightMany a_text f_size f_at f_value a_weights a_tried f_above f_below f_paid a_row a_who a_order a_bestOrder a_costs a_taken, aI cI a_post 52 f_post] [(0, .ref h), (1, .int x1), (2, .int x2), (3, .int x3), (4, .int x4), (5, .int x5)] 0 []
  refine g_iload_n (pl := 3) C dX9_times_0 rfl rfl ?_
  refine g_bipush (v := (nI 6)) C dX9_times_1 rfl ?_
  refine g_icmp_ge (tgt := 16) C dX9_times_3 (by decide) (fun c1 => ?_) (fun c1 => ?_)
  · replace hs := vi_t hs c1
    refine g_iload_n (pl := 3) C dX9_times_16 rfl rfl ?_
    refine g_bipush (v := (nI 9)) C dX9_times_17 rfl ?_
    refine g_icmp_ge (tgt := 43) C dX9_times_19 (by decide) (fun c2 => ?_) (fun c2 => ?_)
    · replace hs := vi_t hs c2
      refine g_aload_n (pl := 0) C dX9_times_43 rfl rfl ?_
      refine g_iload_n (pl := 1) C dX9_times_44 rfl rfl ?_
      refine g_iload_n (pl := 2) C dX9_times_45 rfl rfl ?_
      refine g_iload_n (pl := 3) C dX9_times_46 rfl rfl ?_
      refine g_bipush (v := (nI 9)) C dX9_times_47 rfl ?_
      refine g_isub C dX9_times_49 ?_
      refine g_iload (pl := 4) C dX9_times_50 rfl ?_
      obtain ⟨z3, e_z3, hs⟩ := vb_ok hs
      refine g_callV (ws' := [oX9 h a_post a_read a_now a_aside a_past f_undos a_kept f_keptMany a_sights f_sightMany a_text f_size f_at f_value a_weights a_tried f_above f_below f_paid a_row a_who a_order a_bestOrder a_costs a_taken, aI cI a_post 52 f_post]) (rest := []) (st' := [.int z3]) C mX9_172 q5_89 [.int x1, .int x2, .int (x3 - (nI 9)), .int x4] (fun l D => cX9_byLikeness_ct l D cI h a_post a_read a_now a_aside a_past a_kept a_sights a_text a_weights a_tried a_row a_who a_order a_bestOrder a_costs a_taken f_undos f_keptMany f_sightMany f_size f_at f_value f_above f_below f_paid f_post x1 x2 (x3 - (nI 9)) x4 e_z3) ⟨⟨rfl, rfl⟩, Nat.le_of_ble_eq_true rfl, Nat.le_of_ble_eq_true rfl⟩ 0 rfl rfl rfl [0, 1] rfl rfl rfl rfl rfl (Nat.le_of_ble_eq_true rfl) (Nat.zero_le _) (Nat.zero_le _) rfl dX9_times_52 ?_
      cases hs
      exact hR _ _ dX9_times_55
    · replace hs := vi_f hs c2
      refine g_aload_n (pl := 0) C dX9_times_22 rfl rfl ?_
      refine g_get C fX9_7 0 rfl rfl dX9_times_23 ?_
      refine g_bipush (v := (nI 15)) C dX9_times_26 rfl ?_
      refine g_iload_n (pl := 2) C dX9_times_28 rfl rfl ?_
      refine g_iadd C dX9_times_29 ?_
      obtain ⟨b4, hs⟩ := vg_ok hs
      refine g_iald C 1 rfl (vin_ok b4) dX9_times_30 ?_
      refine g_iload_n (pl := 3) C dX9_times_31 rfl rfl ?_
      refine g_iconst (v := (nI 5)) C dX9_times_32 rfl ?_
      refine g_isub C dX9_times_33 ?_
      refine g_icmp_ne (tgt := 41) C dX9_times_34 (by decide) (fun c5 => ?_) (fun c5 => ?_)
      · replace hs := vi_f hs c5
        refine g_iconst (v := (nI 0)) C dX9_times_41 rfl ?_
        cases hs
        exact hR _ _ dX9_times_42
      · replace hs := vi_t hs c5
        refine g_iconst (v := (nI 1)) C dX9_times_37 rfl ?_
        refine g_goto (tgt := 42) C dX9_times_38 (by decide) ?_
        cases hs
        exact hR _ _ dX9_times_42
  · replace hs := vi_f hs c1
    refine g_aload_n (pl := 0) C dX9_times_6 rfl rfl ?_
    refine g_iload_n (pl := 1) C dX9_times_7 rfl rfl ?_
    refine g_iload_n (pl := 2) C dX9_times_8 rfl rfl ?_
    refine g_iload_n (pl := 3) C dX9_times_9 rfl rfl ?_
    refine g_iload (pl := 5) C dX9_times_10 rfl ?_
    obtain ⟨z6, e_z6, hs⟩ := vb_ok hs
    refine g_callV (ws' := [oX9 h a_post a_read a_now a_aside a_past f_undos a_kept f_keptMany a_sights f_sightMany a_text f_size f_at f_value a_weights a_tried f_above f_below f_paid a_row a_who a_order a_bestOrder a_costs a_taken, aI cI a_post 52 f_post]) (rest := []) (st' := [.int z6]) C mX9_168 q5_85 [.int x1, .int x2, .int x3, .int x5] (fun l D => cX9_byPart_ct l D cI h a_post a_read a_now a_aside a_past a_kept a_sights a_text a_weights a_tried a_row a_who a_order a_bestOrder a_costs a_taken f_undos f_keptMany f_sightMany f_size f_at f_value f_above f_below f_paid f_post x1 x2 x3 x5 e_z6) ⟨⟨rfl, rfl⟩, Nat.le_of_ble_eq_true rfl, Nat.le_of_ble_eq_true rfl⟩ 0 rfl rfl rfl [0, 1] rfl rfl rfl rfl rfl (Nat.le_of_ble_eq_true rfl) (Nat.zero_le _) (Nat.zero_le _) rfl dX9_times_12 ?_
    cases hs
    exact hR _ _ dX9_times_15
def LX9_weigh_43 (y_1 : Int32) (y_3 : Int32) (y_4 : Int32) (y_6 : Int32) (y_7 : Int32) (y_8 : Int32) (f_post : Nat → Int32) (f_p2 : Nat → Int32) (n_p2 : Nat) (K78 : Int32 → Option ((Nat → Int32))) : Nat → Int32 → Int32 → Option ((Nat → Int32))
  | 0, _, _ => none
  | n + 1, y_9, y_10 =>
    vi (y_4 ≤ y_10) inferInstance (
      K78 y_9) (
      vg (vin (y_3 + y_10) n_p2) (
      vb (sX9_times f_post y_1 y_8 (f_p2 (Int32.toNatClampNeg (y_3 + y_10))) y_6 y_7) fun z3 =>
      vlet (y_9 * z3) fun y4 =>
      vlet (y_10 + (nI 1)) fun y5 =>
      LX9_weigh_43 y_1 y_3 y_4 y_6 y_7 y_8 f_post f_p2 n_p2 K78 n y4 y5))
def LX9_weigh_3 (y_1 : Int32) (y_3 : Int32) (y_4 : Int32) (y_5 : Int32) (y_6 : Int32) (y_7 : Int32) (f_post : Nat → Int32) (f_p2 : Nat → Int32) (n_p2 : Nat) : Nat → Int32 → (Nat → Int32) → Option ((Nat → Int32))
  | 0, _, _ => none
  | n + 1, y_8, f_weights =>
    vi ((f_post (Int32.toNatClampNeg (nI 0))) ≤ y_8) inferInstance (
      some (f_weights)) (
      vb (sX9_has y_5 y_8) fun z7 =>
      vi (z7 = 0) inferInstance (
        vg (vin ((nI 7) + y_8) 52) (
        vlet (f_post (Int32.toNatClampNeg ((nI 7) + y_8))) fun y10 =>
        LX9_weigh_43 y_1 y_3 y_4 y_6 y_7 y_8 f_post f_p2 n_p2 (fun (v11 : Int32) =>
            vg (vin y_8 8) (
            vlet (upd f_weights (Int32.toNatClampNeg y_8) v11) fun u13 =>
            vlet (y_8 + (nI 1)) fun y14 =>
            LX9_weigh_3 y_1 y_3 y_4 y_5 y_6 y_7 f_post f_p2 n_p2 n y14 u13)) vF y10 (nI 0))) (
        LX9_weigh_43 y_1 y_3 y_4 y_6 y_7 y_8 f_post f_p2 n_p2 (fun (v15 : Int32) =>
            vg (vin y_8 8) (
            vlet (upd f_weights (Int32.toNatClampNeg y_8) v15) fun u17 =>
            vlet (y_8 + (nI 1)) fun y18 =>
            LX9_weigh_3 y_1 y_3 y_4 y_5 y_6 y_7 f_post f_p2 n_p2 n y18 u17)) vF (nI 0) (nI 0)))
def sX9_weigh (n_p2 : Nat) (f_post : Nat → Int32) (f_weights : Nat → Int32) (f_p2 : Nat → Int32) (x1 : Int32) (x3 : Int32) (x4 : Int32) (x5 : Int32) (x6 : Int32) (x7 : Int32) : Option ((Nat → Int32)) :=
  LX9_weigh_3 x1 x3 x4 x5 x6 x7 f_post f_p2 n_p2 vF (nI 0) f_weights
abbrev rmX9_weigh : Room := { frames := 3, cells := 0, slots := 0, locals := 71 }
set_option maxHeartbeats 4000000 in
set_option maxRecDepth 100000 in
theorem LX9_weigh_43_w {cI : ClassId} {X : xT} (C : cx cI X 11 cX9_weigh RX9 rmX9_weigh) (h : Nat) (a_post : Nat) (a_read : Nat) (a_now : Nat) (a_aside : Nat) (a_past : Nat) (a_kept : Nat) (a_sights : Nat) (a_text : Nat) (a_weights : Nat) (a_tried : Nat) (a_row : Nat) (a_who : Nat) (a_order : Nat) (a_bestOrder : Nat) (a_costs : Nat) (a_taken : Nat) (a_p2 : Nat) (n_p2 : Nat) (f_undos : Int32) (f_keptMany : Int32) (f_sightMany : Int32) (f_size : Int32) (f_at : Int32) (f_value : Int32) (f_above : Int64) (f_below : Int64) (f_paid : Int32) (f_post : Nat → Int32) (f_weights : Nat → Int32) (f_p2 : Nat → Int32) (y_1 : Int32) (y_3 : Int32) (y_4 : Int32) (y_5 : Int32) (y_6 : Int32) (y_7 : Int32) (y_8 : Int32) {z : (Nat → Int32)} (hR : ∀ (lv : List (Nat × Value)) (pc : Nat), decode cX9_weigh pc = .ok (.return_, 1) → gg cI X 11 0 0 [oX9 h a_post a_read a_now a_aside a_past f_undos a_kept f_keptMany a_sights f_sightMany a_text f_size f_at f_value a_weights a_tried f_above f_below f_paid a_row a_who a_order a_bestOrder a_costs a_taken, aI cI a_post 52 f_post, aI cI a_weights 8 z, aI cI a_p2 n_p2 f_p2] lv pc []) {K78 : Int32 → Option ((Nat → Int32))} (hK78 : ∀ (k_9 : Int32), K78 k_9 = some z → gg cI X 11 0 0 [oX9 h a_post a_read a_now a_aside a_past f_undos a_kept f_keptMany a_sights f_sightMany a_text f_size f_at f_value a_weights a_tried f_above f_below f_paid a_row a_who a_order a_bestOrder a_costs a_taken, aI cI a_post 52 f_post, aI cI a_weights 8 f_weights, aI cI a_p2 n_p2 f_p2] [(0, .ref h), (1, .int y_1), (2, .ref a_p2), (3, .int y_3), (4, .int y_4), (5, .int y_5), (6, .int y_6), (7, .int y_7), (8, .int y_8), (9, .int k_9)] 78 []) : ∀ (n : Nat) (y_9 : Int32) (y_10 : Int32), LX9_weigh_43 y_1 y_3 y_4 y_6 y_7 y_8 f_post f_p2 n_p2 K78 n y_9 y_10 = some z → gg cI X 11 0 0 [oX9 h a_post a_read a_now a_aside a_past f_undos a_kept f_keptMany a_sights f_sightMany a_text f_size f_at f_value a_weights a_tried f_above f_below f_paid a_row a_who a_order a_bestOrder a_costs a_taken, aI cI a_post 52 f_post, aI cI a_weights 8 f_weights, aI cI a_p2 n_p2 f_p2] [(0, .ref h), (1, .int y_1), (2, .ref a_p2), (3, .int y_3), (4, .int y_4), (5, .int y_5), (6, .int y_6), (7, .int y_7), (8, .int y_8), (9, .int y_9), (10, .int y_10)] 43 [] := by
  intro n
  induction n with
  | zero =>
    intro y_9 y_10 hs
    exact nn_ok hs
  | succ n ih =>
    intro y_9 y_10 hs
    rw [LX9_weigh_43] at hs
    refine g_iload (pl := 10) C dX9_weigh_43 rfl ?_
    refine g_iload (pl := 4) C dX9_weigh_45 rfl ?_
    refine g_icmp_ge (tgt := 78) C dX9_weigh_47 (by decide) (fun c1 => ?_) (fun c1 => ?_)
    · replace hs := vi_t hs c1
      refine g_sub [0, 1, 2, 3, 4, 5, 6, 7, 8, 9] rfl ?_
      exact hK78 y_9 hs
    · replace hs := vi_f hs c1
      refine g_iload (pl := 9) C dX9_weigh_50 rfl ?_
      refine g_aload_n (pl := 0) C dX9_weigh_52 rfl rfl ?_
      refine g_iload_n (pl := 1) C dX9_weigh_53 rfl rfl ?_
      refine g_iload (pl := 8) C dX9_weigh_54 rfl ?_
      refine g_aload_n (pl := 2) C dX9_weigh_56 rfl rfl ?_
      refine g_iload_n (pl := 3) C dX9_weigh_57 rfl rfl ?_
      refine g_iload (pl := 10) C dX9_weigh_58 rfl ?_
      refine g_iadd C dX9_weigh_60 ?_
      obtain ⟨b2, hs⟩ := vg_ok hs
      refine g_iald C 3 rfl (vin_ok b2) dX9_weigh_61 ?_
      refine g_iload (pl := 6) C dX9_weigh_62 rfl ?_
      refine g_iload (pl := 7) C dX9_weigh_64 rfl ?_
      obtain ⟨z3, e_z3, hs⟩ := vb_ok hs
      refine g_callV (ws' := [oX9 h a_post a_read a_now a_aside a_past f_undos a_kept f_keptMany a_sights f_sightMany a_text f_size f_at f_value a_weights a_tried f_above f_below f_paid a_row a_who a_order a_bestOrder a_costs a_taken, aI cI a_post 52 f_post, aI cI a_weights 8 f_weights, aI cI a_p2 n_p2 f_p2]) (rest := [.int y_9]) (st' := [.int z3, .int y_9]) C mX9_175 q5_81 [.int y_1, .int y_8, .int (f_p2 (Int32.toNatClampNeg (y_3 + y_10))), .int y_6, .int y_7] (fun l D => cX9_times_ct l D cI h a_post a_read a_now a_aside a_past a_kept a_sights a_text a_weights a_tried a_row a_who a_order a_bestOrder a_costs a_taken f_undos f_keptMany f_sightMany f_size f_at f_value f_above f_below f_paid f_post y_1 y_8 (f_p2 (Int32.toNatClampNeg (y_3 + y_10))) y_6 y_7 e_z3) ⟨⟨rfl, rfl⟩, Nat.le_of_ble_eq_true rfl, Nat.le_of_ble_eq_true rfl⟩ 0 rfl rfl rfl [0, 1] rfl rfl rfl rfl rfl (Nat.le_of_ble_eq_true rfl) (Nat.zero_le _) (Nat.zero_le _) rfl dX9_weigh_66 ?_
      refine g_imul C dX9_weigh_69 ?_
      obtain ⟨y4, e_y4, hs⟩ := vlet_ex hs
      refine g_topi e_y4 ?_
      refine g_istore (lv' := [(9, .int y4), (0, .ref h), (1, .int y_1), (2, .ref a_p2), (3, .int y_3), (4, .int y_4), (5, .int y_5), (6, .int y_6), (7, .int y_7), (8, .int y_8), (10, .int y_10)]) C dX9_weigh_70 (by decide) rfl ?_
      obtain ⟨y5, e_y5, hs⟩ := vlet_ex hs
      refine g_iinc (pl := 10) (lv' := [(10, .int y5), (9, .int y4), (0, .ref h), (1, .int y_1), (2, .ref a_p2), (3, .int y_3), (4, .int y_4), (5, .int y_5), (6, .int y_6), (7, .int y_7), (8, .int y_8)]) C dX9_weigh_72 rfl e_y5.symm (by decide) rfl ?_
      refine g_goto (tgt := 43) C dX9_weigh_75 (by decide) ?_
      refine g_sub [2, 3, 4, 5, 6, 7, 8, 9, 10, 1, 0] rfl ?_
      exact ih y4 y5 hs
set_option maxHeartbeats 4000000 in
set_option maxRecDepth 100000 in
theorem LX9_weigh_3_w {cI : ClassId} {X : xT} (C : cx cI X 11 cX9_weigh RX9 rmX9_weigh) (h : Nat) (a_post : Nat) (a_read : Nat) (a_now : Nat) (a_aside : Nat) (a_past : Nat) (a_kept : Nat) (a_sights : Nat) (a_text : Nat) (a_weights : Nat) (a_tried : Nat) (a_row : Nat) (a_who : Nat) (a_order : Nat) (a_bestOrder : Nat) (a_costs : Nat) (a_taken : Nat) (a_p2 : Nat) (n_p2 : Nat) (f_undos : Int32) (f_keptMany : Int32) (f_sightMany : Int32) (f_size : Int32) (f_at : Int32) (f_value : Int32) (f_above : Int64) (f_below : Int64) (f_paid : Int32) (f_post : Nat → Int32) (f_p2 : Nat → Int32) (y_1 : Int32) (y_3 : Int32) (y_4 : Int32) (y_5 : Int32) (y_6 : Int32) (y_7 : Int32) {z : (Nat → Int32)} (hR : ∀ (lv : List (Nat × Value)) (pc : Nat), decode cX9_weigh pc = .ok (.return_, 1) → gg cI X 11 0 0 [oX9 h a_post a_read a_now a_aside a_past f_undos a_kept f_keptMany a_sights f_sightMany a_text f_size f_at f_value a_weights a_tried f_above f_below f_paid a_row a_who a_order a_bestOrder a_costs a_taken, aI cI a_post 52 f_post, aI cI a_weights 8 z, aI cI a_p2 n_p2 f_p2] lv pc []) : ∀ (n : Nat) (y_8 : Int32) (f_weights : Nat → Int32), LX9_weigh_3 y_1 y_3 y_4 y_5 y_6 y_7 f_post f_p2 n_p2 n y_8 f_weights = some z → gg cI X 11 0 0 [oX9 h a_post a_read a_now a_aside a_past f_undos a_kept f_keptMany a_sights f_sightMany a_text f_size f_at f_value a_weights a_tried f_above f_below f_paid a_row a_who a_order a_bestOrder a_costs a_taken, aI cI a_post 52 f_post, aI cI a_weights 8 f_weights, aI cI a_p2 n_p2 f_p2] [(0, .ref h), (1, .int y_1), (2, .ref a_p2), (3, .int y_3), (4, .int y_4), (5, .int y_5), (6, .int y_6), (7, .int y_7), (8, .int y_8)] 3 [] := by
  intro n
  induction n with
  | zero =>
    intro y_8 f_weights hs
    exact nn_ok hs
  | succ n ih =>
    intro y_8 f_weights hs
    rw [LX9_weigh_3] at hs
    refine g_iload (pl := 8) C dX9_weigh_3 rfl ?_
    refine g_aload_n (pl := 0) C dX9_weigh_5 rfl rfl ?_
    refine g_get C fX9_7 0 rfl rfl dX9_weigh_6 ?_
    refine g_iconst (v := (nI 0)) C dX9_weigh_9 rfl ?_
    refine g_iald C 1 rfl (vin_ok rfl) dX9_weigh_10 ?_
    refine g_icmp_ge (tgt := 93) C dX9_weigh_11 (by decide) (fun c6 => ?_) (fun c6 => ?_)
    · replace hs := vi_t hs c6
      cases hs
      exact hR _ _ dX9_weigh_93
    · replace hs := vi_f hs c6
      refine g_iload (pl := 5) C dX9_weigh_14 rfl ?_
      refine g_iload (pl := 8) C dX9_weigh_16 rfl ?_
      obtain ⟨z7, e_z7, hs⟩ := vb_ok hs
      refine g_callS (ws' := [oX9 h a_post a_read a_now a_aside a_past f_undos a_kept f_keptMany a_sights f_sightMany a_text f_size f_at f_value a_weights a_tried f_above f_below f_paid a_row a_who a_order a_bestOrder a_costs a_taken, aI cI a_post 52 f_post, aI cI a_weights 8 f_weights, aI cI a_p2 n_p2 f_p2]) (rest := []) (st' := [.int z7]) C mX9_120 q5_6 [.int y_5, .int y_8] (fun l D => cX9_has_ct l D cI y_5 y_8 e_z7) ⟨⟨rfl, rfl⟩, Nat.le_of_ble_eq_true rfl, Nat.le_of_ble_eq_true rfl⟩ rfl [] rfl rfl rfl rfl rfl (Nat.le_of_ble_eq_true rfl) (Nat.zero_le _) (Nat.zero_le _) rfl dX9_weigh_18 ?_
      refine g_if_eq (tgt := 28) C dX9_weigh_21 (by decide) (fun c8 => ?_) (fun c8 => ?_)
      · replace hs := vi_t hs c8
        refine g_aload_n (pl := 0) C dX9_weigh_28 rfl rfl ?_
        refine g_get C fX9_7 0 rfl rfl dX9_weigh_29 ?_
        refine g_bipush (v := (nI 7)) C dX9_weigh_32 rfl ?_
        refine g_iload (pl := 8) C dX9_weigh_34 rfl ?_
        refine g_iadd C dX9_weigh_36 ?_
        obtain ⟨b9, hs⟩ := vg_ok hs
        refine g_iald C 1 rfl (vin_ok b9) dX9_weigh_37 ?_
        obtain ⟨y10, e_y10, hs⟩ := vlet_ex hs
        refine g_topi e_y10 ?_
        refine g_istore (lv' := [(9, .int y10), (0, .ref h), (1, .int y_1), (2, .ref a_p2), (3, .int y_3), (4, .int y_4), (5, .int y_5), (6, .int y_6), (7, .int y_7), (8, .int y_8)]) C dX9_weigh_38 (by decide) rfl ?_
        refine g_iconst (v := (nI 0)) C dX9_weigh_40 rfl ?_
        refine g_istore (lv' := [(10, .int (nI 0)), (9, .int y10), (0, .ref h), (1, .int y_1), (2, .ref a_p2), (3, .int y_3), (4, .int y_4), (5, .int y_5), (6, .int y_6), (7, .int y_7), (8, .int y_8)]) C dX9_weigh_41 (by decide) rfl ?_
        refine g_sub [2, 3, 4, 5, 6, 7, 8, 9, 10, 1, 0] rfl ?_
        refine LX9_weigh_43_w C h a_post a_read a_now a_aside a_past a_kept a_sights a_text a_weights a_tried a_row a_who a_order a_bestOrder a_costs a_taken a_p2 n_p2 f_undos f_keptMany f_sightMany f_size f_at f_value f_above f_below f_paid f_post f_weights f_p2 y_1 y_3 y_4 y_5 y_6 y_7 y_8 hR ?_ _ y10 (nI 0) hs
        · intro v11 hs
          refine g_aload_n (pl := 0) C dX9_weigh_78 rfl rfl ?_
          refine g_get C fX9_34 0 rfl rfl dX9_weigh_79 ?_
          refine g_iload (pl := 8) C dX9_weigh_82 rfl ?_
          refine g_iload (pl := 9) C dX9_weigh_84 rfl ?_
          obtain ⟨b12, hs⟩ := vg_ok hs
          obtain ⟨u13, e_u13, hs⟩ := vlet_ex hs
          refine g_iast (ws' := [oX9 h a_post a_read a_now a_aside a_past f_undos a_kept f_keptMany a_sights f_sightMany a_text f_size f_at f_value a_weights a_tried f_above f_below f_paid a_row a_who a_order a_bestOrder a_costs a_taken, aI cI a_post 52 f_post, aI cI a_weights 8 u13, aI cI a_p2 n_p2 f_p2]) C 2 rfl (vin_ok b12) (by rw [e_u13]; rfl) dX9_weigh_86 ?_
          obtain ⟨y14, e_y14, hs⟩ := vlet_ex hs
          refine g_iinc (pl := 8) (lv' := [(8, .int y14), (0, .ref h), (1, .int y_1), (2, .ref a_p2), (3, .int y_3), (4, .int y_4), (5, .int y_5), (6, .int y_6), (7, .int y_7), (9, .int v11)]) C dX9_weigh_87 rfl e_y14.symm (by decide) rfl ?_
          refine g_goto (tgt := 3) C dX9_weigh_90 (by decide) ?_
          refine g_sub [1, 2, 3, 4, 5, 6, 7, 8, 0] rfl ?_
          exact ih y14 u13 hs
      · replace hs := vi_f hs c8
        refine g_iconst (v := (nI 0)) C dX9_weigh_24 rfl ?_
        refine g_goto (tgt := 38) C dX9_weigh_25 (by decide) ?_
        refine g_istore (lv' := [(9, .int (nI 0)), (0, .ref h), (1, .int y_1), (2, .ref a_p2), (3, .int y_3), (4, .int y_4), (5, .int y_5), (6, .int y_6), (7, .int y_7), (8, .int y_8)]) C dX9_weigh_38 (by decide) rfl ?_
        refine g_iconst (v := (nI 0)) C dX9_weigh_40 rfl ?_
        refine g_istore (lv' := [(10, .int (nI 0)), (9, .int (nI 0)), (0, .ref h), (1, .int y_1), (2, .ref a_p2), (3, .int y_3), (4, .int y_4), (5, .int y_5), (6, .int y_6), (7, .int y_7), (8, .int y_8)]) C dX9_weigh_41 (by decide) rfl ?_
        refine g_sub [2, 3, 4, 5, 6, 7, 8, 9, 10, 1, 0] rfl ?_
        refine LX9_weigh_43_w C h a_post a_read a_now a_aside a_past a_kept a_sights a_text a_weights a_tried a_row a_who a_order a_bestOrder a_costs a_taken a_p2 n_p2 f_undos f_keptMany f_sightMany f_size f_at f_value f_above f_below f_paid f_post f_weights f_p2 y_1 y_3 y_4 y_5 y_6 y_7 y_8 hR ?_ _ (nI 0) (nI 0) hs
        · intro v15 hs
          refine g_aload_n (pl := 0) C dX9_weigh_78 rfl rfl ?_
          refine g_get C fX9_34 0 rfl rfl dX9_weigh_79 ?_
          refine g_iload (pl := 8) C dX9_weigh_82 rfl ?_
          refine g_iload (pl := 9) C dX9_weigh_84 rfl ?_
          obtain ⟨b16, hs⟩ := vg_ok hs
          obtain ⟨u17, e_u17, hs⟩ := vlet_ex hs
          refine g_iast (ws' := [oX9 h a_post a_read a_now a_aside a_past f_undos a_kept f_keptMany a_sights f_sightMany a_text f_size f_at f_value a_weights a_tried f_above f_below f_paid a_row a_who a_order a_bestOrder a_costs a_taken, aI cI a_post 52 f_post, aI cI a_weights 8 u17, aI cI a_p2 n_p2 f_p2]) C 2 rfl (vin_ok b16) (by rw [e_u17]; rfl) dX9_weigh_86 ?_
          obtain ⟨y18, e_y18, hs⟩ := vlet_ex hs
          refine g_iinc (pl := 8) (lv' := [(8, .int y18), (0, .ref h), (1, .int y_1), (2, .ref a_p2), (3, .int y_3), (4, .int y_4), (5, .int y_5), (6, .int y_6), (7, .int y_7), (9, .int v15)]) C dX9_weigh_87 rfl e_y18.symm (by decide) rfl ?_
          refine g_goto (tgt := 3) C dX9_weigh_90 (by decide) ?_
          refine g_sub [1, 2, 3, 4, 5, 6, 7, 8, 0] rfl ?_
          exact ih y18 u17 hs
set_option maxHeartbeats 4000000 in
set_option maxRecDepth 100000 in
theorem cX9_weigh_ct (l : Launch) (D : va_G) (cI : ClassId) (h : Nat) (a_post : Nat) (a_read : Nat) (a_now : Nat) (a_aside : Nat) (a_past : Nat) (a_kept : Nat) (a_sights : Nat) (a_text : Nat) (a_weights : Nat) (a_tried : Nat) (a_row : Nat) (a_who : Nat) (a_order : Nat) (a_bestOrder : Nat) (a_costs : Nat) (a_taken : Nat) (a_p2 : Nat) (n_p2 : Nat) (f_undos : Int32) (f_keptMany : Int32) (f_sightMany : Int32) (f_size : Int32) (f_at : Int32) (f_value : Int32) (f_above : Int64) (f_below : Int64) (f_paid : Int32) (f_post : Nat → Int32) (f_weights : Nat → Int32) (f_p2 : Nat → Int32) (x1 : Int32) (x3 : Int32) (x4 : Int32) (x5 : Int32) (x6 : Int32) (x7 : Int32) {z : (Nat → Int32)} (hs : sX9_weigh n_p2 f_post f_weights f_p2 x1 x3 x4 x5 x6 x7 = some z) : ct l yX9_weigh (.code yX9_weigh cX9_weigh 11 none :: gtb) rmX9_weigh D cI [.ref h, .int x1, .ref a_p2, .int x3, .int x4, .int x5, .int x6, .int x7] [oX9 h a_post a_read a_now a_aside a_past f_undos a_kept f_keptMany a_sights f_sightMany a_text f_size f_at f_value a_weights a_tried f_above f_below f_paid a_row a_who a_order a_bestOrder a_costs a_taken, aI cI a_post 52 f_post, aI cI a_weights 8 f_weights, aI cI a_p2 n_p2 f_p2] none [oX9 h a_post a_read a_now a_aside a_past f_undos a_kept f_keptMany a_sights f_sightMany a_text f_size f_at f_value a_weights a_tried f_above f_below f_paid a_row a_who a_order a_bestOrder a_costs a_taken, aI cI a_post 52 f_post, aI cI a_weights 8 z, aI cI a_p2 n_p2 f_p2] := by
  refine ct_ofV (own := RX9) (by decide +kernel) rfl (Nat.le_of_ble_eq_true rfl) (fun X C hD hR => ?_)
  unfold sX9_weigh at hs
  show gg cI X 11 0 0 [oX9 h a_post a_read a_now a_aside a_past f_undos a_kept f_keptMany a_sights f_sightMany a_text f_size f_at f_value a_weights a_tried f_above f_below f_paid a_row a_who a_order a_bestOrder a_costs a_taken, aI cI a_post 52 f_post, aI cI a_weights 8 f_weights, aI cI a_p2 n_p2 f_p2] [(0, .ref h), (1, .int x1), (2, .ref a_p2), (3, .int x3), (4, .int x4), (5, .int x5), (6, .int x6), (7, .int x7)] 0 []
  refine g_iconst (v := (nI 0)) C dX9_weigh_0 rfl ?_
  refine g_istore (lv' := [(8, .int (nI 0)), (0, .ref h), (1, .int x1), (2, .ref a_p2), (3, .int x3), (4, .int x4), (5, .int x5), (6, .int x6), (7, .int x7)]) C dX9_weigh_1 (by decide) rfl ?_
  refine g_sub [1, 2, 3, 4, 5, 6, 7, 8, 0] rfl ?_
  exact LX9_weigh_3_w C h a_post a_read a_now a_aside a_past a_kept a_sights a_text a_weights a_tried a_row a_who a_order a_bestOrder a_costs a_taken a_p2 n_p2 f_undos f_keptMany f_sightMany f_size f_at f_value f_above f_below f_paid f_post f_p2 x1 x3 x4 x5 x6 x7 hR _ (nI 0) f_weights hs
def sX9_weighActor (f_post : Nat → Int32) (f_weights : Nat → Int32) (f_p1 : Nat → Int32) (x2 : Int32) : Option ((Nat → Int32)) :=
  vg (vin ((nI 37) + x2) 52) (
  vg (vin ((nI 10) + x2) 50) (
  vg (vin ((nI 15) + x2) 50) (
  vb (sX9_weigh 50 f_post f_weights f_p1 (f_post (Int32.toNatClampNeg ((nI 37) + x2))) ((nI 25) + ((nI 5) * x2)) (f_p1 (Int32.toNatClampNeg ((nI 10) + x2))) (f_p1 (Int32.toNatClampNeg ((nI 15) + x2))) (f_post (Int32.toNatClampNeg (nI 4))) (f_post (Int32.toNatClampNeg (nI 5)))) fun z4 =>
  some (z4))))
abbrev rmX9_weighActor : Room := { frames := 4, cells := 0, slots := 0, locals := 101 }
set_option maxHeartbeats 4000000 in
set_option maxRecDepth 100000 in
theorem cX9_weighActor_ct (l : Launch) (D : va_G) (cI : ClassId) (h : Nat) (a_post : Nat) (a_read : Nat) (a_now : Nat) (a_aside : Nat) (a_past : Nat) (a_kept : Nat) (a_sights : Nat) (a_text : Nat) (a_weights : Nat) (a_tried : Nat) (a_row : Nat) (a_who : Nat) (a_order : Nat) (a_bestOrder : Nat) (a_costs : Nat) (a_taken : Nat) (a_p1 : Nat) (f_undos : Int32) (f_keptMany : Int32) (f_sightMany : Int32) (f_size : Int32) (f_at : Int32) (f_value : Int32) (f_above : Int64) (f_below : Int64) (f_paid : Int32) (f_post : Nat → Int32) (f_weights : Nat → Int32) (f_p1 : Nat → Int32) (x2 : Int32) {z : (Nat → Int32)} (hs : sX9_weighActor f_post f_weights f_p1 x2 = some z) : ct l yX9_weighActor (.code yX9_weighActor cX9_weighActor 3 none :: gtb) rmX9_weighActor D cI [.ref h, .ref a_p1, .int x2] [oX9 h a_post a_read a_now a_aside a_past f_undos a_kept f_keptMany a_sights f_sightMany a_text f_size f_at f_value a_weights a_tried f_above f_below f_paid a_row a_who a_order a_bestOrder a_costs a_taken, aI cI a_post 52 f_post, aI cI a_weights 8 f_weights, aI cI a_p1 50 f_p1] none [oX9 h a_post a_read a_now a_aside a_past f_undos a_kept f_keptMany a_sights f_sightMany a_text f_size f_at f_value a_weights a_tried f_above f_below f_paid a_row a_who a_order a_bestOrder a_costs a_taken, aI cI a_post 52 f_post, aI cI a_weights 8 z, aI cI a_p1 50 f_p1] := by
  refine ct_ofV (own := RX9) (by decide +kernel) rfl (Nat.le_of_ble_eq_true rfl) (fun X C hD hR => ?_)
  unfold sX9_weighActor at hs
  show gg cI X 3 0 0 [oX9 h a_post a_read a_now a_aside a_past f_undos a_kept f_keptMany a_sights f_sightMany a_text f_size f_at f_value a_weights a_tried f_above f_below f_paid a_row a_who a_order a_bestOrder a_costs a_taken, aI cI a_post 52 f_post, aI cI a_weights 8 f_weights, aI cI a_p1 50 f_p1] [(0, .ref h), (1, .ref a_p1), (2, .int x2)] 0 []
  refine g_aload_n (pl := 0) C dX9_weighActor_0 rfl rfl ?_
  refine g_aload_n (pl := 0) C dX9_weighActor_1 rfl rfl ?_
  refine g_get C fX9_7 0 rfl rfl dX9_weighActor_2 ?_
  refine g_bipush (v := (nI 37)) C dX9_weighActor_5 rfl ?_
  refine g_iload_n (pl := 2) C dX9_weighActor_7 rfl rfl ?_
  refine g_iadd C dX9_weighActor_8 ?_
  obtain ⟨b1, hs⟩ := vg_ok hs
  refine g_iald C 1 rfl (vin_ok b1) dX9_weighActor_9 ?_
  refine g_aload_n (pl := 1) C dX9_weighActor_10 rfl rfl ?_
  refine g_bipush (v := (nI 25)) C dX9_weighActor_11 rfl ?_
  refine g_iconst (v := (nI 5)) C dX9_weighActor_13 rfl ?_
  refine g_iload_n (pl := 2) C dX9_weighActor_14 rfl rfl ?_
  refine g_imul C dX9_weighActor_15 ?_
  refine g_iadd C dX9_weighActor_16 ?_
  refine g_aload_n (pl := 1) C dX9_weighActor_17 rfl rfl ?_
  refine g_bipush (v := (nI 10)) C dX9_weighActor_18 rfl ?_
  refine g_iload_n (pl := 2) C dX9_weighActor_20 rfl rfl ?_
  refine g_iadd C dX9_weighActor_21 ?_
  obtain ⟨b2, hs⟩ := vg_ok hs
  refine g_iald C 3 rfl (vin_ok b2) dX9_weighActor_22 ?_
  refine g_aload_n (pl := 1) C dX9_weighActor_23 rfl rfl ?_
  refine g_bipush (v := (nI 15)) C dX9_weighActor_24 rfl ?_
  refine g_iload_n (pl := 2) C dX9_weighActor_26 rfl rfl ?_
  refine g_iadd C dX9_weighActor_27 ?_
  obtain ⟨b3, hs⟩ := vg_ok hs
  refine g_iald C 3 rfl (vin_ok b3) dX9_weighActor_28 ?_
  refine g_aload_n (pl := 0) C dX9_weighActor_29 rfl rfl ?_
  refine g_get C fX9_7 0 rfl rfl dX9_weighActor_30 ?_
  refine g_iconst (v := (nI 4)) C dX9_weighActor_33 rfl ?_
  refine g_iald C 1 rfl (vin_ok rfl) dX9_weighActor_34 ?_
  refine g_aload_n (pl := 0) C dX9_weighActor_35 rfl rfl ?_
  refine g_get C fX9_7 0 rfl rfl dX9_weighActor_36 ?_
  refine g_iconst (v := (nI 5)) C dX9_weighActor_39 rfl ?_
  refine g_iald C 1 rfl (vin_ok rfl) dX9_weighActor_40 ?_
  obtain ⟨z4, e_z4, hs⟩ := vb_ok hs
  refine g_callV (ws' := [oX9 h a_post a_read a_now a_aside a_past f_undos a_kept f_keptMany a_sights f_sightMany a_text f_size f_at f_value a_weights a_tried f_above f_below f_paid a_row a_who a_order a_bestOrder a_costs a_taken, aI cI a_post 52 f_post, aI cI a_weights 8 z4, aI cI a_p1 50 f_p1]) (rest := []) (st' := []) C mX9_179 q5_77 [.int (f_post (Int32.toNatClampNeg ((nI 37) + x2))), .ref a_p1, .int ((nI 25) + ((nI 5) * x2)), .int (f_p1 (Int32.toNatClampNeg ((nI 10) + x2))), .int (f_p1 (Int32.toNatClampNeg ((nI 15) + x2))), .int (f_post (Int32.toNatClampNeg (nI 4))), .int (f_post (Int32.toNatClampNeg (nI 5)))] (fun l D => cX9_weigh_ct l D cI h a_post a_read a_now a_aside a_past a_kept a_sights a_text a_weights a_tried a_row a_who a_order a_bestOrder a_costs a_taken a_p1 50 f_undos f_keptMany f_sightMany f_size f_at f_value f_above f_below f_paid f_post f_weights f_p1 (f_post (Int32.toNatClampNeg ((nI 37) + x2))) ((nI 25) + ((nI 5) * x2)) (f_p1 (Int32.toNatClampNeg ((nI 10) + x2))) (f_p1 (Int32.toNatClampNeg ((nI 15) + x2))) (f_post (Int32.toNatClampNeg (nI 4))) (f_post (Int32.toNatClampNeg (nI 5))) e_z4) ⟨⟨rfl, rfl⟩, Nat.le_of_ble_eq_true rfl, Nat.le_of_ble_eq_true rfl⟩ 0 rfl rfl rfl [0, 1, 2, 3] rfl rfl rfl rfl rfl (Nat.le_of_ble_eq_true rfl) (Nat.zero_le _) (Nat.zero_le _) rfl dX9_weighActor_41 ?_
  cases hs
  exact hR _ _ dX9_weighActor_44
def LX9_greatest_5 (f_post : Nat → Int32) (f_p1 : Nat → Int32) : Nat → Int32 → Int32 → Option (Int32)
  | 0, _, _ => none
  | n + 1, y_2, y_3 =>
    vi ((f_post (Int32.toNatClampNeg (nI 0))) ≤ y_3) inferInstance (
      some (y_2)) (
      vg (vin y_3 8) (
      vi ((f_p1 (Int32.toNatClampNeg y_3)) ≤ 0) inferInstance (
        vlet (y_3 + (nI 1)) fun y4 =>
        LX9_greatest_5 f_post f_p1 n y_2 y4) (
        vi (y_2 = (-4)) inferInstance (
          vlet (y_3 + (nI 1)) fun y6 =>
          LX9_greatest_5 f_post f_p1 n y_3 y6) (
          vg (vin y_3 8) (
          vg (vin y_2 8) (
          vi ((f_p1 (Int32.toNatClampNeg y_3)) ≤ (f_p1 (Int32.toNatClampNeg y_2))) inferInstance (
            vlet (y_3 + (nI 1)) fun y10 =>
            LX9_greatest_5 f_post f_p1 n y_2 y10) (
            vlet (y_3 + (nI 1)) fun y11 =>
            LX9_greatest_5 f_post f_p1 n y_3 y11)))))))
def sX9_greatest (f_post : Nat → Int32) (f_p1 : Nat → Int32) : Option (Int32) :=
  LX9_greatest_5 f_post f_p1 vF (-4) (nI 0)
abbrev rmX9_greatest : Room := { frames := 0, cells := 0, slots := 0, locals := 0 }
set_option maxHeartbeats 4000000 in
set_option maxRecDepth 100000 in
theorem LX9_greatest_5_w {cI : ClassId} {X : xT} (C : cx cI X 4 cX9_greatest RX9 rmX9_greatest) (h : Nat) (a_post : Nat) (a_read : Nat) (a_now : Nat) (a_aside : Nat) (a_past : Nat) (a_kept : Nat) (a_sights : Nat) (a_text : Nat) (a_weights : Nat) (a_tried : Nat) (a_row : Nat) (a_who : Nat) (a_order : Nat) (a_bestOrder : Nat) (a_costs : Nat) (a_taken : Nat) (a_p1 : Nat) (f_undos : Int32) (f_keptMany : Int32) (f_sightMany : Int32) (f_size : Int32) (f_at : Int32) (f_value : Int32) (f_above : Int64) (f_below : Int64) (f_paid : Int32) (f_post : Nat → Int32) (f_p1 : Nat → Int32) {z : Int32} (hR : ∀ (lv : List (Nat × Value)) (pc : Nat), decode cX9_greatest pc = .ok (.ireturn, 1) → gg cI X 4 0 0 [oX9 h a_post a_read a_now a_aside a_past f_undos a_kept f_keptMany a_sights f_sightMany a_text f_size f_at f_value a_weights a_tried f_above f_below f_paid a_row a_who a_order a_bestOrder a_costs a_taken, aI cI a_post 52 f_post, aI cI a_p1 8 f_p1] lv pc [.int z]) : ∀ (n : Nat) (y_2 : Int32) (y_3 : Int32), LX9_greatest_5 f_post f_p1 n y_2 y_3 = some z → gg cI X 4 0 0 [oX9 h a_post a_read a_now a_aside a_past f_undos a_kept f_keptMany a_sights f_sightMany a_text f_size f_at f_value a_weights a_tried f_above f_below f_paid a_row a_who a_order a_bestOrder a_costs a_taken, aI cI a_post 52 f_post, aI cI a_p1 8 f_p1] [(0, .ref h), (1, .ref a_p1), (2, .int y_2), (3, .int y_3)] 5 [] := by
  intro n
  induction n with
  | zero =>
    intro y_2 y_3 hs
    exact nn_ok hs
  | succ n ih =>
    intro y_2 y_3 hs
    rw [LX9_greatest_5] at hs
    refine g_iload_n (pl := 3) C dX9_greatest_5 rfl rfl ?_
    refine g_aload_n (pl := 0) C dX9_greatest_6 rfl rfl ?_
    refine g_get C fX9_7 0 rfl rfl dX9_greatest_7 ?_
    refine g_iconst (v := (nI 0)) C dX9_greatest_10 rfl ?_
    refine g_iald C 1 rfl (vin_ok rfl) dX9_greatest_11 ?_
    refine g_icmp_ge (tgt := 48) C dX9_greatest_12 (by decide) (fun c1 => ?_) (fun c1 => ?_)
    · replace hs := vi_t hs c1
      refine g_iload_n (pl := 2) C dX9_greatest_48 rfl rfl ?_
      cases hs
      exact hR _ _ dX9_greatest_49
    · replace hs := vi_f hs c1
      refine g_aload_n (pl := 1) C dX9_greatest_15 rfl rfl ?_
      refine g_iload_n (pl := 3) C dX9_greatest_16 rfl rfl ?_
      obtain ⟨b2, hs⟩ := vg_ok hs
      refine g_iald C 2 rfl (vin_ok b2) dX9_greatest_17 ?_
      refine g_if_le (tgt := 40) C dX9_greatest_18 (by decide) (fun c3 => ?_) (fun c3 => ?_)
      · replace hs := vi_t hs c3
        refine g_iload_n (pl := 2) C dX9_greatest_40 rfl rfl ?_
        refine g_istore_n (lv' := [(2, .int y_2), (0, .ref h), (1, .ref a_p1), (3, .int y_3)]) C dX9_greatest_41 rfl (by decide) rfl ?_
        obtain ⟨y4, e_y4, hs⟩ := vlet_ex hs
        refine g_iinc (pl := 3) (lv' := [(3, .int y4), (2, .int y_2), (0, .ref h), (1, .ref a_p1)]) C dX9_greatest_42 rfl e_y4.symm (by decide) rfl ?_
        refine g_goto (tgt := 5) C dX9_greatest_45 (by decide) ?_
        refine g_sub [2, 3, 1, 0] rfl ?_
        exact ih y_2 y4 hs
      · replace hs := vi_f hs c3
        refine g_iload_n (pl := 2) C dX9_greatest_21 rfl rfl ?_
        refine g_bipush (v := (-4)) C dX9_greatest_22 rfl ?_
        refine g_icmp_eq (tgt := 36) C dX9_greatest_24 (by decide) (fun c5 => ?_) (fun c5 => ?_)
        · replace hs := vi_t hs c5
          refine g_iload_n (pl := 3) C dX9_greatest_36 rfl rfl ?_
          refine g_goto (tgt := 41) C dX9_greatest_37 (by decide) ?_
          refine g_istore_n (lv' := [(2, .int y_3), (0, .ref h), (1, .ref a_p1), (3, .int y_3)]) C dX9_greatest_41 rfl (by decide) rfl ?_
          obtain ⟨y6, e_y6, hs⟩ := vlet_ex hs
          refine g_iinc (pl := 3) (lv' := [(3, .int y6), (2, .int y_3), (0, .ref h), (1, .ref a_p1)]) C dX9_greatest_42 rfl e_y6.symm (by decide) rfl ?_
          refine g_goto (tgt := 5) C dX9_greatest_45 (by decide) ?_
          refine g_sub [2, 3, 1, 0] rfl ?_
          exact ih y_3 y6 hs
        · replace hs := vi_f hs c5
          refine g_aload_n (pl := 1) C dX9_greatest_27 rfl rfl ?_
          refine g_iload_n (pl := 3) C dX9_greatest_28 rfl rfl ?_
          obtain ⟨b7, hs⟩ := vg_ok hs
          refine g_iald C 2 rfl (vin_ok b7) dX9_greatest_29 ?_
          refine g_aload_n (pl := 1) C dX9_greatest_30 rfl rfl ?_
          refine g_iload_n (pl := 2) C dX9_greatest_31 rfl rfl ?_
          obtain ⟨b8, hs⟩ := vg_ok hs
          refine g_iald C 2 rfl (vin_ok b8) dX9_greatest_32 ?_
          refine g_icmp_le (tgt := 40) C dX9_greatest_33 (by decide) (fun c9 => ?_) (fun c9 => ?_)
          · replace hs := vi_t hs c9
            refine g_iload_n (pl := 2) C dX9_greatest_40 rfl rfl ?_
            refine g_istore_n (lv' := [(2, .int y_2), (0, .ref h), (1, .ref a_p1), (3, .int y_3)]) C dX9_greatest_41 rfl (by decide) rfl ?_
            obtain ⟨y10, e_y10, hs⟩ := vlet_ex hs
            refine g_iinc (pl := 3) (lv' := [(3, .int y10), (2, .int y_2), (0, .ref h), (1, .ref a_p1)]) C dX9_greatest_42 rfl e_y10.symm (by decide) rfl ?_
            refine g_goto (tgt := 5) C dX9_greatest_45 (by decide) ?_
            refine g_sub [2, 3, 1, 0] rfl ?_
            exact ih y_2 y10 hs
          · replace hs := vi_f hs c9
            refine g_iload_n (pl := 3) C dX9_greatest_36 rfl rfl ?_
            refine g_goto (tgt := 41) C dX9_greatest_37 (by decide) ?_
            refine g_istore_n (lv' := [(2, .int y_3), (0, .ref h), (1, .ref a_p1), (3, .int y_3)]) C dX9_greatest_41 rfl (by decide) rfl ?_
            obtain ⟨y11, e_y11, hs⟩ := vlet_ex hs
            refine g_iinc (pl := 3) (lv' := [(3, .int y11), (2, .int y_3), (0, .ref h), (1, .ref a_p1)]) C dX9_greatest_42 rfl e_y11.symm (by decide) rfl ?_
            refine g_goto (tgt := 5) C dX9_greatest_45 (by decide) ?_
            refine g_sub [2, 3, 1, 0] rfl ?_
            exact ih y_3 y11 hs
set_option maxHeartbeats 4000000 in
set_option maxRecDepth 100000 in
theorem cX9_greatest_ct (l : Launch) (D : va_G) (cI : ClassId) (h : Nat) (a_post : Nat) (a_read : Nat) (a_now : Nat) (a_aside : Nat) (a_past : Nat) (a_kept : Nat) (a_sights : Nat) (a_text : Nat) (a_weights : Nat) (a_tried : Nat) (a_row : Nat) (a_who : Nat) (a_order : Nat) (a_bestOrder : Nat) (a_costs : Nat) (a_taken : Nat) (a_p1 : Nat) (f_undos : Int32) (f_keptMany : Int32) (f_sightMany : Int32) (f_size : Int32) (f_at : Int32) (f_value : Int32) (f_above : Int64) (f_below : Int64) (f_paid : Int32) (f_post : Nat → Int32) (f_p1 : Nat → Int32) {z : Int32} (hs : sX9_greatest f_post f_p1 = some z) : ct l yX9_greatest (.code yX9_greatest cX9_greatest 4 (some .int) :: gtb) rmX9_greatest D cI [.ref h, .ref a_p1] [oX9 h a_post a_read a_now a_aside a_past f_undos a_kept f_keptMany a_sights f_sightMany a_text f_size f_at f_value a_weights a_tried f_above f_below f_paid a_row a_who a_order a_bestOrder a_costs a_taken, aI cI a_post 52 f_post, aI cI a_p1 8 f_p1] (some (.int z)) [oX9 h a_post a_read a_now a_aside a_past f_undos a_kept f_keptMany a_sights f_sightMany a_text f_size f_at f_value a_weights a_tried f_above f_below f_paid a_row a_who a_order a_bestOrder a_costs a_taken, aI cI a_post 52 f_post, aI cI a_p1 8 f_p1] := by
  refine ct_ofI (own := RX9) (by decide +kernel) rfl (Nat.le_of_ble_eq_true rfl) (fun X C hD hR => ?_)
  unfold sX9_greatest at hs
  show gg cI X 4 0 0 [oX9 h a_post a_read a_now a_aside a_past f_undos a_kept f_keptMany a_sights f_sightMany a_text f_size f_at f_value a_weights a_tried f_above f_below f_paid a_row a_who a_order a_bestOrder a_costs a_taken, aI cI a_post 52 f_post, aI cI a_p1 8 f_p1] [(0, .ref h), (1, .ref a_p1)] 0 []
  refine g_bipush (v := (-4)) C dX9_greatest_0 rfl ?_
  refine g_istore_n (lv' := [(2, .int (-4)), (0, .ref h), (1, .ref a_p1)]) C dX9_greatest_2 rfl (by decide) rfl ?_
  refine g_iconst (v := (nI 0)) C dX9_greatest_3 rfl ?_
  refine g_istore_n (lv' := [(3, .int (nI 0)), (2, .int (-4)), (0, .ref h), (1, .ref a_p1)]) C dX9_greatest_4 rfl (by decide) rfl ?_
  refine g_sub [2, 3, 1, 0] rfl ?_
  exact LX9_greatest_5_w C h a_post a_read a_now a_aside a_past a_kept a_sights a_text a_weights a_tried a_row a_who a_order a_bestOrder a_costs a_taken a_p1 f_undos f_keptMany f_sightMany f_size f_at f_value f_above f_below f_paid f_post f_p1 hR _ (-4) (nI 0) hs
def sX9_nextAt (f_post : Nat → Int32) (f_weights : Nat → Int32) (f_p1 : Nat → Int32) (x2 : Int32) : Option (Int32 × (Nat → Int32)) :=
  vb (sX9_weighActor f_post f_weights f_p1 x2) fun z1 =>
  vb (sX9_greatest f_post z1) fun z2 =>
  some (z2, z1)
abbrev rmX9_nextAt : Room := { frames := 5, cells := 0, slots := 0, locals := 123 }
set_option maxHeartbeats 4000000 in
set_option maxRecDepth 100000 in
theorem cX9_nextAt_ct (l : Launch) (D : va_G) (cI : ClassId) (h : Nat) (a_post : Nat) (a_read : Nat) (a_now : Nat) (a_aside : Nat) (a_past : Nat) (a_kept : Nat) (a_sights : Nat) (a_text : Nat) (a_weights : Nat) (a_tried : Nat) (a_row : Nat) (a_who : Nat) (a_order : Nat) (a_bestOrder : Nat) (a_costs : Nat) (a_taken : Nat) (a_p1 : Nat) (f_undos : Int32) (f_keptMany : Int32) (f_sightMany : Int32) (f_size : Int32) (f_at : Int32) (f_value : Int32) (f_above : Int64) (f_below : Int64) (f_paid : Int32) (f_post : Nat → Int32) (f_weights : Nat → Int32) (f_p1 : Nat → Int32) (x2 : Int32) {z : Int32 × (Nat → Int32)} (hs : sX9_nextAt f_post f_weights f_p1 x2 = some z) : ct l yX9_nextAt (.code yX9_nextAt cX9_nextAt 3 (some .int) :: gtb) rmX9_nextAt D cI [.ref h, .ref a_p1, .int x2] [oX9 h a_post a_read a_now a_aside a_past f_undos a_kept f_keptMany a_sights f_sightMany a_text f_size f_at f_value a_weights a_tried f_above f_below f_paid a_row a_who a_order a_bestOrder a_costs a_taken, aI cI a_post 52 f_post, aI cI a_weights 8 f_weights, aI cI a_p1 50 f_p1] (some (.int z.1)) [oX9 h a_post a_read a_now a_aside a_past f_undos a_kept f_keptMany a_sights f_sightMany a_text f_size f_at f_value a_weights a_tried f_above f_below f_paid a_row a_who a_order a_bestOrder a_costs a_taken, aI cI a_post 52 f_post, aI cI a_weights 8 z.2, aI cI a_p1 50 f_p1] := by
  refine ct_ofI (own := RX9) (by decide +kernel) rfl (Nat.le_of_ble_eq_true rfl) (fun X C hD hR => ?_)
  unfold sX9_nextAt at hs
  show gg cI X 3 0 0 [oX9 h a_post a_read a_now a_aside a_past f_undos a_kept f_keptMany a_sights f_sightMany a_text f_size f_at f_value a_weights a_tried f_above f_below f_paid a_row a_who a_order a_bestOrder a_costs a_taken, aI cI a_post 52 f_post, aI cI a_weights 8 f_weights, aI cI a_p1 50 f_p1] [(0, .ref h), (1, .ref a_p1), (2, .int x2)] 0 []
  refine g_aload_n (pl := 0) C dX9_nextAt_0 rfl rfl ?_
  refine g_aload_n (pl := 1) C dX9_nextAt_1 rfl rfl ?_
  refine g_iload_n (pl := 2) C dX9_nextAt_2 rfl rfl ?_
  obtain ⟨z1, e_z1, hs⟩ := vb_ok hs
  refine g_callV (ws' := [oX9 h a_post a_read a_now a_aside a_past f_undos a_kept f_keptMany a_sights f_sightMany a_text f_size f_at f_value a_weights a_tried f_above f_below f_paid a_row a_who a_order a_bestOrder a_costs a_taken, aI cI a_post 52 f_post, aI cI a_weights 8 z1, aI cI a_p1 50 f_p1]) (rest := []) (st' := []) C mX9_183 q5_73 [.ref a_p1, .int x2] (fun l D => cX9_weighActor_ct l D cI h a_post a_read a_now a_aside a_past a_kept a_sights a_text a_weights a_tried a_row a_who a_order a_bestOrder a_costs a_taken a_p1 f_undos f_keptMany f_sightMany f_size f_at f_value f_above f_below f_paid f_post f_weights f_p1 x2 e_z1) ⟨⟨rfl, rfl⟩, Nat.le_of_ble_eq_true rfl, Nat.le_of_ble_eq_true rfl⟩ 0 rfl rfl rfl [0, 1, 2, 3] rfl rfl rfl rfl rfl (Nat.le_of_ble_eq_true rfl) (Nat.zero_le _) (Nat.zero_le _) rfl dX9_nextAt_3 ?_
  refine g_aload_n (pl := 0) C dX9_nextAt_6 rfl rfl ?_
  refine g_aload_n (pl := 0) C dX9_nextAt_7 rfl rfl ?_
  refine g_get C fX9_34 0 rfl rfl dX9_nextAt_8 ?_
  obtain ⟨z2, e_z2, hs⟩ := vb_ok hs
  refine g_callV (ws' := [oX9 h a_post a_read a_now a_aside a_past f_undos a_kept f_keptMany a_sights f_sightMany a_text f_size f_at f_value a_weights a_tried f_above f_below f_paid a_row a_who a_order a_bestOrder a_costs a_taken, aI cI a_post 52 f_post, aI cI a_weights 8 z1, aI cI a_p1 50 f_p1]) (rest := []) (st' := [.int z2]) C mX9_187 q5_117 [.ref a_weights] (fun l D => cX9_greatest_ct l D cI h a_post a_read a_now a_aside a_past a_kept a_sights a_text a_weights a_tried a_row a_who a_order a_bestOrder a_costs a_taken a_weights f_undos f_keptMany f_sightMany f_size f_at f_value f_above f_below f_paid f_post z1 e_z2) ⟨⟨rfl, rfl⟩, Nat.le_of_ble_eq_true rfl, Nat.le_of_ble_eq_true rfl⟩ 0 rfl rfl rfl [0, 1, 2] rfl rfl rfl rfl rfl (Nat.le_of_ble_eq_true rfl) (Nat.zero_le _) (Nat.zero_le _) rfl dX9_nextAt_11 ?_
  cases hs
  exact hR _ _ dX9_nextAt_14
def sX9_waits (f_now : Nat → Int32) (x1 : Int32) : Option (Int32) :=
  vg (vin ((nI 20) + x1) 50) (
  vi ((f_now (Int32.toNatClampNeg ((nI 20) + x1))) = 0) inferInstance (
    some ((nI 1))) (
    some ((nI 0))))
abbrev rmX9_waits : Room := { frames := 0, cells := 0, slots := 0, locals := 0 }
set_option maxHeartbeats 4000000 in
set_option maxRecDepth 100000 in
theorem cX9_waits_ct (l : Launch) (D : va_G) (cI : ClassId) (h : Nat) (a_post : Nat) (a_read : Nat) (a_now : Nat) (a_aside : Nat) (a_past : Nat) (a_kept : Nat) (a_sights : Nat) (a_text : Nat) (a_weights : Nat) (a_tried : Nat) (a_row : Nat) (a_who : Nat) (a_order : Nat) (a_bestOrder : Nat) (a_costs : Nat) (a_taken : Nat) (f_undos : Int32) (f_keptMany : Int32) (f_sightMany : Int32) (f_size : Int32) (f_at : Int32) (f_value : Int32) (f_above : Int64) (f_below : Int64) (f_paid : Int32) (f_now : Nat → Int32) (x1 : Int32) {z : Int32} (hs : sX9_waits f_now x1 = some z) : ct l yX9_waits (.code yX9_waits cX9_waits 2 (some .boolean) :: gtb) rmX9_waits D cI [.ref h, .int x1] [oX9 h a_post a_read a_now a_aside a_past f_undos a_kept f_keptMany a_sights f_sightMany a_text f_size f_at f_value a_weights a_tried f_above f_below f_paid a_row a_who a_order a_bestOrder a_costs a_taken, aI cI a_now 50 f_now] (some (.int z)) [oX9 h a_post a_read a_now a_aside a_past f_undos a_kept f_keptMany a_sights f_sightMany a_text f_size f_at f_value a_weights a_tried f_above f_below f_paid a_row a_who a_order a_bestOrder a_costs a_taken, aI cI a_now 50 f_now] := by
  refine ct_ofZ (own := RX9) (by decide +kernel) rfl (Nat.le_of_ble_eq_true rfl) (fun X C hD hR => ?_)
  unfold sX9_waits at hs
  show gg cI X 2 0 0 [oX9 h a_post a_read a_now a_aside a_past f_undos a_kept f_keptMany a_sights f_sightMany a_text f_size f_at f_value a_weights a_tried f_above f_below f_paid a_row a_who a_order a_bestOrder a_costs a_taken, aI cI a_now 50 f_now] [(0, .ref h), (1, .int x1)] 0 []
  refine g_aload_n (pl := 0) C dX9_waits_0 rfl rfl ?_
  refine g_get C fX9_16 0 rfl rfl dX9_waits_1 ?_
  refine g_bipush (v := (nI 20)) C dX9_waits_4 rfl ?_
  refine g_iload_n (pl := 1) C dX9_waits_6 rfl rfl ?_
  refine g_iadd C dX9_waits_7 ?_
  obtain ⟨b1, hs⟩ := vg_ok hs
  refine g_iald C 1 rfl (vin_ok b1) dX9_waits_8 ?_
  refine g_if_ne (tgt := 16) C dX9_waits_9 (by decide) (fun c2 => ?_) (fun c2 => ?_)
  · replace hs := vi_f hs c2
    refine g_iconst (v := (nI 0)) C dX9_waits_16 rfl ?_
    cases hs
    exact hR _ _ (Or.inl rfl) dX9_waits_17
  · replace hs := vi_t hs c2
    refine g_iconst (v := (nI 1)) C dX9_waits_12 rfl ?_
    refine g_goto (tgt := 17) C dX9_waits_13 (by decide) ?_
    cases hs
    exact hR _ _ (Or.inr rfl) dX9_waits_17
def sX9_weight (f_post : Nat → Int32) (f_now : Nat → Int32) (f_weights : Nat → Int32) (x1 : Int32) (x2 : Int32) : Option (Int32 × (Nat → Int32)) :=
  vb (sX9_isActor f_post x1) fun z1 =>
  vi (z1 = 0) inferInstance (
    some ((-1), f_weights)) (
    vb (sX9_isWord f_post x2) fun z3 =>
    vi (z3 = 0) inferInstance (
      some ((-1), f_weights)) (
      vb (sX9_weighActor f_post f_weights f_now x1) fun z5 =>
      vg (vin x2 8) (
      some (z5 (Int32.toNatClampNeg x2), z5))))
abbrev rmX9_weight : Room := { frames := 5, cells := 0, slots := 0, locals := 123 }
set_option maxHeartbeats 4000000 in
set_option maxRecDepth 100000 in
theorem cX9_weight_ct (l : Launch) (D : va_G) (cI : ClassId) (h : Nat) (a_post : Nat) (a_read : Nat) (a_now : Nat) (a_aside : Nat) (a_past : Nat) (a_kept : Nat) (a_sights : Nat) (a_text : Nat) (a_weights : Nat) (a_tried : Nat) (a_row : Nat) (a_who : Nat) (a_order : Nat) (a_bestOrder : Nat) (a_costs : Nat) (a_taken : Nat) (f_undos : Int32) (f_keptMany : Int32) (f_sightMany : Int32) (f_size : Int32) (f_at : Int32) (f_value : Int32) (f_above : Int64) (f_below : Int64) (f_paid : Int32) (f_post : Nat → Int32) (f_now : Nat → Int32) (f_weights : Nat → Int32) (x1 : Int32) (x2 : Int32) {z : Int32 × (Nat → Int32)} (hs : sX9_weight f_post f_now f_weights x1 x2 = some z) : ct l yX9_weight (.code yX9_weight cX9_weight 3 (some .int) :: gtb) rmX9_weight D cI [.ref h, .int x1, .int x2] [oX9 h a_post a_read a_now a_aside a_past f_undos a_kept f_keptMany a_sights f_sightMany a_text f_size f_at f_value a_weights a_tried f_above f_below f_paid a_row a_who a_order a_bestOrder a_costs a_taken, aI cI a_post 52 f_post, aI cI a_now 50 f_now, aI cI a_weights 8 f_weights] (some (.int z.1)) [oX9 h a_post a_read a_now a_aside a_past f_undos a_kept f_keptMany a_sights f_sightMany a_text f_size f_at f_value a_weights a_tried f_above f_below f_paid a_row a_who a_order a_bestOrder a_costs a_taken, aI cI a_post 52 f_post, aI cI a_now 50 f_now, aI cI a_weights 8 z.2] := by
  refine ct_ofI (own := RX9) (by decide +kernel) rfl (Nat.le_of_ble_eq_true rfl) (fun X C hD hR => ?_)
  unfold sX9_weight at hs
  show gg cI X 3 0 0 [oX9 h a_post a_read a_now a_aside a_past f_undos a_kept f_keptMany a_sights f_sightMany a_text f_size f_at f_value a_weights a_tried f_above f_below f_paid a_row a_who a_order a_bestOrder a_costs a_taken, aI cI a_post 52 f_post, aI cI a_now 50 f_now, aI cI a_weights 8 f_weights] [(0, .ref h), (1, .int x1), (2, .int x2)] 0 []
  refine g_aload_n (pl := 0) C dX9_weight_0 rfl rfl ?_
  refine g_iload_n (pl := 1) C dX9_weight_1 rfl rfl ?_
  obtain ⟨z1, e_z1, hs⟩ := vb_ok hs
  refine g_callV (ws' := [oX9 h a_post a_read a_now a_aside a_past f_undos a_kept f_keptMany a_sights f_sightMany a_text f_size f_at f_value a_weights a_tried f_above f_below f_paid a_row a_who a_order a_bestOrder a_costs a_taken, aI cI a_post 52 f_post, aI cI a_now 50 f_now, aI cI a_weights 8 f_weights]) (rest := []) (st' := [.int z1]) C mX9_165 q5_61 [.int x1] (fun l D => cX9_isActor_ct l D cI h a_post a_read a_now a_aside a_past a_kept a_sights a_text a_weights a_tried a_row a_who a_order a_bestOrder a_costs a_taken f_undos f_keptMany f_sightMany f_size f_at f_value f_above f_below f_paid f_post x1 e_z1) ⟨⟨rfl, rfl⟩, Nat.le_of_ble_eq_true rfl, Nat.le_of_ble_eq_true rfl⟩ 0 rfl rfl rfl [0, 1] rfl rfl rfl rfl rfl (Nat.le_of_ble_eq_true rfl) (Nat.zero_le _) (Nat.zero_le _) rfl dX9_weight_2 ?_
  refine g_if_eq (tgt := 16) C dX9_weight_5 (by decide) (fun c2 => ?_) (fun c2 => ?_)
  · replace hs := vi_t hs c2
    refine g_iconst (v := (-1)) C dX9_weight_16 rfl ?_
    cases hs
    exact hR _ _ dX9_weight_17
  · replace hs := vi_f hs c2
    refine g_aload_n (pl := 0) C dX9_weight_8 rfl rfl ?_
    refine g_iload_n (pl := 2) C dX9_weight_9 rfl rfl ?_
    obtain ⟨z3, e_z3, hs⟩ := vb_ok hs
    refine g_callV (ws' := [oX9 h a_post a_read a_now a_aside a_past f_undos a_kept f_keptMany a_sights f_sightMany a_text f_size f_at f_value a_weights a_tried f_above f_below f_paid a_row a_who a_order a_bestOrder a_costs a_taken, aI cI a_post 52 f_post, aI cI a_now 50 f_now, aI cI a_weights 8 f_weights]) (rest := []) (st' := [.int z3]) C mX9_155 q5_37 [.int x2] (fun l D => cX9_isWord_ct l D cI h a_post a_read a_now a_aside a_past a_kept a_sights a_text a_weights a_tried a_row a_who a_order a_bestOrder a_costs a_taken f_undos f_keptMany f_sightMany f_size f_at f_value f_above f_below f_paid f_post x2 e_z3) ⟨⟨rfl, rfl⟩, Nat.le_of_ble_eq_true rfl, Nat.le_of_ble_eq_true rfl⟩ 0 rfl rfl rfl [0, 1] rfl rfl rfl rfl rfl (Nat.le_of_ble_eq_true rfl) (Nat.zero_le _) (Nat.zero_le _) rfl dX9_weight_10 ?_
    refine g_if_ne (tgt := 18) C dX9_weight_13 (by decide) (fun c4 => ?_) (fun c4 => ?_)
    · replace hs := vi_f hs c4
      refine g_aload_n (pl := 0) C dX9_weight_18 rfl rfl ?_
      refine g_aload_n (pl := 0) C dX9_weight_19 rfl rfl ?_
      refine g_get C fX9_16 0 rfl rfl dX9_weight_20 ?_
      refine g_iload_n (pl := 1) C dX9_weight_23 rfl rfl ?_
      obtain ⟨z5, e_z5, hs⟩ := vb_ok hs
      refine g_callV (ws' := [oX9 h a_post a_read a_now a_aside a_past f_undos a_kept f_keptMany a_sights f_sightMany a_text f_size f_at f_value a_weights a_tried f_above f_below f_paid a_row a_who a_order a_bestOrder a_costs a_taken, aI cI a_post 52 f_post, aI cI a_now 50 f_now, aI cI a_weights 8 z5]) (rest := []) (st' := []) C mX9_183 q5_73 [.ref a_now, .int x1] (fun l D => cX9_weighActor_ct l D cI h a_post a_read a_now a_aside a_past a_kept a_sights a_text a_weights a_tried a_row a_who a_order a_bestOrder a_costs a_taken a_now f_undos f_keptMany f_sightMany f_size f_at f_value f_above f_below f_paid f_post f_weights f_now x1 e_z5) ⟨⟨rfl, rfl⟩, Nat.le_of_ble_eq_true rfl, Nat.le_of_ble_eq_true rfl⟩ 0 rfl rfl rfl [0, 1, 3, 2] rfl rfl rfl rfl rfl (Nat.le_of_ble_eq_true rfl) (Nat.zero_le _) (Nat.zero_le _) rfl dX9_weight_24 ?_
      refine g_aload_n (pl := 0) C dX9_weight_27 rfl rfl ?_
      refine g_get C fX9_34 0 rfl rfl dX9_weight_28 ?_
      refine g_iload_n (pl := 2) C dX9_weight_31 rfl rfl ?_
      obtain ⟨b6, hs⟩ := vg_ok hs
      refine g_iald C 3 rfl (vin_ok b6) dX9_weight_32 ?_
      cases hs
      exact hR _ _ dX9_weight_33
    · replace hs := vi_t hs c4
      refine g_iconst (v := (-1)) C dX9_weight_16 rfl ?_
      cases hs
      exact hR _ _ dX9_weight_17
def LX9_lowest_6 (y_1 : Int64) (y_3 : Int64) : Nat → Int64 → Int64 → Option (Int64 × Int64)
  | 0, _, _ => none
  | n + 1, y_5, y_7 =>
    vi ((lg_cmp y_7 (lN 0)) = 0) inferInstance (
      vg (decide (¬ y_5 = 0)) (
      vlet (y_1 / y_5) fun y3 =>
      vg (decide (¬ y_5 = 0)) (
      vlet (y_3 / y_5) fun y5 =>
      some (y3, y5)))) (
      vg (decide (¬ y_7 = 0)) (
      vlet (y_5 - y_5 / y_7 * y_7) fun y7 =>
      LX9_lowest_6 y_1 y_3 n y_7 y7))
def sX9_lowest (f_above : Int64) (f_below : Int64) (x1 : Int64) (x2 : Int64) : Option (Int64 × Int64) :=
  LX9_lowest_6 x1 x2 vF x1 x2
abbrev rmX9_lowest : Room := { frames := 0, cells := 0, slots := 0, locals := 0 }
set_option maxHeartbeats 4000000 in
set_option maxRecDepth 100000 in
theorem LX9_lowest_6_w {cI : ClassId} {X : xT} (C : cx cI X 11 cX9_lowest RX9 rmX9_lowest) (h : Nat) (a_post : Nat) (a_read : Nat) (a_now : Nat) (a_aside : Nat) (a_past : Nat) (a_kept : Nat) (a_sights : Nat) (a_text : Nat) (a_weights : Nat) (a_tried : Nat) (a_row : Nat) (a_who : Nat) (a_order : Nat) (a_bestOrder : Nat) (a_costs : Nat) (a_taken : Nat) (f_undos : Int32) (f_keptMany : Int32) (f_sightMany : Int32) (f_size : Int32) (f_at : Int32) (f_value : Int32) (f_above : Int64) (f_below : Int64) (f_paid : Int32) (y_1 : Int64) (y_3 : Int64) {z : Int64 × Int64} (hR : ∀ (lv : List (Nat × Value)) (pc : Nat), decode cX9_lowest pc = .ok (.return_, 1) → gg cI X 11 0 0 [oX9 h a_post a_read a_now a_aside a_past f_undos a_kept f_keptMany a_sights f_sightMany a_text f_size f_at f_value a_weights a_tried z.1 z.2 f_paid a_row a_who a_order a_bestOrder a_costs a_taken] lv pc []) : ∀ (n : Nat) (y_5 : Int64) (y_7 : Int64), LX9_lowest_6 y_1 y_3 n y_5 y_7 = some z → gg cI X 11 0 0 [oX9 h a_post a_read a_now a_aside a_past f_undos a_kept f_keptMany a_sights f_sightMany a_text f_size f_at f_value a_weights a_tried f_above f_below f_paid a_row a_who a_order a_bestOrder a_costs a_taken] [(0, .ref h), (1, .long y_1), (3, .long y_3), (5, .long y_5), (7, .long y_7)] 6 [] := by
  intro n
  induction n with
  | zero =>
    intro y_5 y_7 hs
    exact nn_ok hs
  | succ n ih =>
    intro y_5 y_7 hs
    rw [LX9_lowest_6] at hs
    refine g_lload (pl := 4) C dX9_lowest_6 rfl ?_
    refine g_lconst (v := (lN 0)) C dX9_lowest_8 rfl ?_
    refine g_lcmp C dX9_lowest_9 ?_
    refine g_if_eq (tgt := 31) C dX9_lowest_10 (by decide) (fun c1 => ?_) (fun c1 => ?_)
    · replace hs := vi_t hs c1
      refine g_aload_n (pl := 0) C dX9_lowest_31 rfl rfl ?_
      refine g_lload_n (pl := 1) C dX9_lowest_32 rfl rfl ?_
      refine g_lload (pl := 3) C dX9_lowest_33 rfl ?_
      obtain ⟨b2, hs⟩ := vg_ok hs
      refine g_ldiv C dX9_lowest_35 (of_decide_eq_true b2) ?_
      obtain ⟨y3, e_y3, hs⟩ := vlet_ex hs
      refine g_topl e_y3 ?_
      refine g_putL (ws' := [oX9 h a_post a_read a_now a_aside a_past f_undos a_kept f_keptMany a_sights f_sightMany a_text f_size f_at f_value a_weights a_tried y3 f_below f_paid a_row a_who a_order a_bestOrder a_costs a_taken]) C fX9_191 0 rfl (Nat.le_of_ble_eq_true rfl) rfl dX9_lowest_36 ?_
      refine g_aload_n (pl := 0) C dX9_lowest_39 rfl rfl ?_
      refine g_lload_n (pl := 2) C dX9_lowest_40 rfl rfl ?_
      refine g_lload (pl := 3) C dX9_lowest_41 rfl ?_
      obtain ⟨b4, hs⟩ := vg_ok hs
      refine g_ldiv C dX9_lowest_43 (of_decide_eq_true b4) ?_
      obtain ⟨y5, e_y5, hs⟩ := vlet_ex hs
      refine g_topl e_y5 ?_
      refine g_putL (ws' := [oX9 h a_post a_read a_now a_aside a_past f_undos a_kept f_keptMany a_sights f_sightMany a_text f_size f_at f_value a_weights a_tried y3 y5 f_paid a_row a_who a_order a_bestOrder a_costs a_taken]) C fX9_195 0 rfl (Nat.le_of_ble_eq_true rfl) rfl dX9_lowest_44 ?_
      cases hs
      exact hR _ _ dX9_lowest_47
    · replace hs := vi_f hs c1
      refine g_lload (pl := 3) C dX9_lowest_13 rfl ?_
      refine g_lload (pl := 4) C dX9_lowest_15 rfl ?_
      obtain ⟨b6, hs⟩ := vg_ok hs
      refine g_lrem C dX9_lowest_17 (of_decide_eq_true b6) ?_
      obtain ⟨y7, e_y7, hs⟩ := vlet_ex hs
      refine g_topl e_y7 ?_
      refine g_lstore (lv' := [(9, .long y7), (0, .ref h), (1, .long y_1), (3, .long y_3), (5, .long y_5), (7, .long y_7)]) C dX9_lowest_18 (by decide) rfl ?_
      refine g_lload (pl := 5) C dX9_lowest_20 rfl ?_
      refine g_lstore (lv' := [(5, .long y_7), (9, .long y7), (0, .ref h), (1, .long y_1), (3, .long y_3), (7, .long y_7)]) C dX9_lowest_22 (by decide) rfl ?_
      refine g_lload (pl := 1) C dX9_lowest_24 rfl ?_
      refine g_lstore (lv' := [(7, .long y7), (5, .long y_7), (9, .long y7), (0, .ref h), (1, .long y_1), (3, .long y_3)]) C dX9_lowest_26 (by decide) rfl ?_
      refine g_goto (tgt := 6) C dX9_lowest_28 (by decide) ?_
      refine g_sub [3, 4, 5, 1, 0] rfl ?_
      exact ih y_7 y7 hs
set_option maxHeartbeats 4000000 in
set_option maxRecDepth 100000 in
theorem cX9_lowest_ct (l : Launch) (D : va_G) (cI : ClassId) (h : Nat) (a_post : Nat) (a_read : Nat) (a_now : Nat) (a_aside : Nat) (a_past : Nat) (a_kept : Nat) (a_sights : Nat) (a_text : Nat) (a_weights : Nat) (a_tried : Nat) (a_row : Nat) (a_who : Nat) (a_order : Nat) (a_bestOrder : Nat) (a_costs : Nat) (a_taken : Nat) (f_undos : Int32) (f_keptMany : Int32) (f_sightMany : Int32) (f_size : Int32) (f_at : Int32) (f_value : Int32) (f_above : Int64) (f_below : Int64) (f_paid : Int32) (x1 : Int64) (x2 : Int64) {z : Int64 × Int64} (hs : sX9_lowest f_above f_below x1 x2 = some z) : ct l yX9_lowest (.code yX9_lowest cX9_lowest 11 none :: gtb) rmX9_lowest D cI [.ref h, .long x1, .long x2] [oX9 h a_post a_read a_now a_aside a_past f_undos a_kept f_keptMany a_sights f_sightMany a_text f_size f_at f_value a_weights a_tried f_above f_below f_paid a_row a_who a_order a_bestOrder a_costs a_taken] none [oX9 h a_post a_read a_now a_aside a_past f_undos a_kept f_keptMany a_sights f_sightMany a_text f_size f_at f_value a_weights a_tried z.1 z.2 f_paid a_row a_who a_order a_bestOrder a_costs a_taken] := by
  refine ct_ofV (own := RX9) (by decide +kernel) rfl (Nat.le_of_ble_eq_true rfl) (fun X C hD hR => ?_)
  unfold sX9_lowest at hs
  show gg cI X 11 0 0 [oX9 h a_post a_read a_now a_aside a_past f_undos a_kept f_keptMany a_sights f_sightMany a_text f_size f_at f_value a_weights a_tried f_above f_below f_paid a_row a_who a_order a_bestOrder a_costs a_taken] [(0, .ref h), (1, .long x1), (3, .long x2)] 0 []
  refine g_lload_n (pl := 1) C dX9_lowest_0 rfl rfl ?_
  refine g_lstore (lv' := [(5, .long x1), (0, .ref h), (1, .long x1), (3, .long x2)]) C dX9_lowest_1 (by decide) rfl ?_
  refine g_lload_n (pl := 3) C dX9_lowest_3 rfl rfl ?_
  refine g_lstore (lv' := [(7, .long x2), (5, .long x1), (0, .ref h), (1, .long x1), (3, .long x2)]) C dX9_lowest_4 (by decide) rfl ?_
  refine g_sub [2, 3, 4, 1, 0] rfl ?_
  exact LX9_lowest_6_w C h a_post a_read a_now a_aside a_past a_kept a_sights a_text a_weights a_tried a_row a_who a_order a_bestOrder a_costs a_taken f_undos f_keptMany f_sightMany f_size f_at f_value f_above f_below f_paid x1 x2 hR _ x1 x2 hs
def LX9_sumOf_5 (f_post : Nat → Int32) (f_p1 : Nat → Int32) : Nat → Int64 → Int32 → Option (Int64)
  | 0, _, _ => none
  | n + 1, y_2, y_4 =>
    vi ((f_post (Int32.toNatClampNeg (nI 0))) ≤ y_4) inferInstance (
      some (y_2)) (
      vg (vin y_4 8) (
      vlet (y_2 + (Int32.toInt64 (f_p1 (Int32.toNatClampNeg y_4)))) fun y3 =>
      vlet (y_4 + (nI 1)) fun y4 =>
      LX9_sumOf_5 f_post f_p1 n y3 y4))
def sX9_sumOf (f_post : Nat → Int32) (f_p1 : Nat → Int32) : Option (Int64) :=
  LX9_sumOf_5 f_post f_p1 vF (lN 0) (nI 0)
abbrev rmX9_sumOf : Room := { frames := 0, cells := 0, slots := 0, locals := 0 }
set_option maxHeartbeats 4000000 in
set_option maxRecDepth 100000 in
theorem LX9_sumOf_5_w {cI : ClassId} {X : xT} (C : cx cI X 5 cX9_sumOf RX9 rmX9_sumOf) (h : Nat) (a_post : Nat) (a_read : Nat) (a_now : Nat) (a_aside : Nat) (a_past : Nat) (a_kept : Nat) (a_sights : Nat) (a_text : Nat) (a_weights : Nat) (a_tried : Nat) (a_row : Nat) (a_who : Nat) (a_order : Nat) (a_bestOrder : Nat) (a_costs : Nat) (a_taken : Nat) (a_p1 : Nat) (f_undos : Int32) (f_keptMany : Int32) (f_sightMany : Int32) (f_size : Int32) (f_at : Int32) (f_value : Int32) (f_above : Int64) (f_below : Int64) (f_paid : Int32) (f_post : Nat → Int32) (f_p1 : Nat → Int32) {z : Int64} (hR : ∀ (lv : List (Nat × Value)) (pc : Nat), decode cX9_sumOf pc = .ok (.lreturn, 1) → gg cI X 5 0 0 [oX9 h a_post a_read a_now a_aside a_past f_undos a_kept f_keptMany a_sights f_sightMany a_text f_size f_at f_value a_weights a_tried f_above f_below f_paid a_row a_who a_order a_bestOrder a_costs a_taken, aI cI a_post 52 f_post, aI cI a_p1 8 f_p1] lv pc [.long z]) : ∀ (n : Nat) (y_2 : Int64) (y_4 : Int32), LX9_sumOf_5 f_post f_p1 n y_2 y_4 = some z → gg cI X 5 0 0 [oX9 h a_post a_read a_now a_aside a_past f_undos a_kept f_keptMany a_sights f_sightMany a_text f_size f_at f_value a_weights a_tried f_above f_below f_paid a_row a_who a_order a_bestOrder a_costs a_taken, aI cI a_post 52 f_post, aI cI a_p1 8 f_p1] [(0, .ref h), (1, .ref a_p1), (2, .long y_2), (4, .int y_4)] 5 [] := by
  intro n
  induction n with
  | zero =>
    intro y_2 y_4 hs
    exact nn_ok hs
  | succ n ih =>
    intro y_2 y_4 hs
    rw [LX9_sumOf_5] at hs
    refine g_iload (pl := 3) C dX9_sumOf_5 rfl ?_
    refine g_aload_n (pl := 0) C dX9_sumOf_7 rfl rfl ?_
    refine g_get C fX9_7 0 rfl rfl dX9_sumOf_8 ?_
    refine g_iconst (v := (nI 0)) C dX9_sumOf_11 rfl ?_
    refine g_iald C 1 rfl (vin_ok rfl) dX9_sumOf_12 ?_
    refine g_icmp_ge (tgt := 30) C dX9_sumOf_13 (by decide) (fun c1 => ?_) (fun c1 => ?_)
    · replace hs := vi_t hs c1
      refine g_lload_n (pl := 2) C dX9_sumOf_30 rfl rfl ?_
      cases hs
      exact hR _ _ dX9_sumOf_31
    · replace hs := vi_f hs c1
      refine g_lload_n (pl := 2) C dX9_sumOf_16 rfl rfl ?_
      refine g_aload_n (pl := 1) C dX9_sumOf_17 rfl rfl ?_
      refine g_iload (pl := 3) C dX9_sumOf_18 rfl ?_
      obtain ⟨b2, hs⟩ := vg_ok hs
      refine g_iald C 2 rfl (vin_ok b2) dX9_sumOf_20 ?_
      refine g_i2l C dX9_sumOf_21 ?_
      refine g_ladd C dX9_sumOf_22 ?_
      obtain ⟨y3, e_y3, hs⟩ := vlet_ex hs
      refine g_topl e_y3 ?_
      refine g_lstore_n (lv' := [(2, .long y3), (0, .ref h), (1, .ref a_p1), (4, .int y_4)]) C dX9_sumOf_23 rfl (by decide) rfl ?_
      obtain ⟨y4, e_y4, hs⟩ := vlet_ex hs
      refine g_iinc (pl := 3) (lv' := [(4, .int y4), (2, .long y3), (0, .ref h), (1, .ref a_p1)]) C dX9_sumOf_24 rfl e_y4.symm (by decide) rfl ?_
      refine g_goto (tgt := 5) C dX9_sumOf_27 (by decide) ?_
      refine g_sub [2, 3, 1, 0] rfl ?_
      exact ih y3 y4 hs
set_option maxHeartbeats 4000000 in
set_option maxRecDepth 100000 in
theorem cX9_sumOf_ct (l : Launch) (D : va_G) (cI : ClassId) (h : Nat) (a_post : Nat) (a_read : Nat) (a_now : Nat) (a_aside : Nat) (a_past : Nat) (a_kept : Nat) (a_sights : Nat) (a_text : Nat) (a_weights : Nat) (a_tried : Nat) (a_row : Nat) (a_who : Nat) (a_order : Nat) (a_bestOrder : Nat) (a_costs : Nat) (a_taken : Nat) (a_p1 : Nat) (f_undos : Int32) (f_keptMany : Int32) (f_sightMany : Int32) (f_size : Int32) (f_at : Int32) (f_value : Int32) (f_above : Int64) (f_below : Int64) (f_paid : Int32) (f_post : Nat → Int32) (f_p1 : Nat → Int32) {z : Int64} (hs : sX9_sumOf f_post f_p1 = some z) : ct l yX9_sumOf (.code yX9_sumOf cX9_sumOf 5 (some .long) :: gtb) rmX9_sumOf D cI [.ref h, .ref a_p1] [oX9 h a_post a_read a_now a_aside a_past f_undos a_kept f_keptMany a_sights f_sightMany a_text f_size f_at f_value a_weights a_tried f_above f_below f_paid a_row a_who a_order a_bestOrder a_costs a_taken, aI cI a_post 52 f_post, aI cI a_p1 8 f_p1] (some (.long z)) [oX9 h a_post a_read a_now a_aside a_past f_undos a_kept f_keptMany a_sights f_sightMany a_text f_size f_at f_value a_weights a_tried f_above f_below f_paid a_row a_who a_order a_bestOrder a_costs a_taken, aI cI a_post 52 f_post, aI cI a_p1 8 f_p1] := by
  refine ct_ofL (own := RX9) (by decide +kernel) rfl (Nat.le_of_ble_eq_true rfl) (fun X C hD hR => ?_)
  unfold sX9_sumOf at hs
  show gg cI X 5 0 0 [oX9 h a_post a_read a_now a_aside a_past f_undos a_kept f_keptMany a_sights f_sightMany a_text f_size f_at f_value a_weights a_tried f_above f_below f_paid a_row a_who a_order a_bestOrder a_costs a_taken, aI cI a_post 52 f_post, aI cI a_p1 8 f_p1] [(0, .ref h), (1, .ref a_p1)] 0 []
  refine g_lconst (v := (lN 0)) C dX9_sumOf_0 rfl ?_
  refine g_lstore_n (lv' := [(2, .long (lN 0)), (0, .ref h), (1, .ref a_p1)]) C dX9_sumOf_1 rfl (by decide) rfl ?_
  refine g_iconst (v := (nI 0)) C dX9_sumOf_2 rfl ?_
  refine g_istore (lv' := [(4, .int (nI 0)), (2, .long (lN 0)), (0, .ref h), (1, .ref a_p1)]) C dX9_sumOf_3 (by decide) rfl ?_
  refine g_sub [2, 3, 1, 0] rfl ?_
  exact LX9_sumOf_5_w C h a_post a_read a_now a_aside a_past a_kept a_sights a_text a_weights a_tried a_row a_who a_order a_bestOrder a_costs a_taken a_p1 f_undos f_keptMany f_sightMany f_size f_at f_value f_above f_below f_paid f_post f_p1 hR _ (lN 0) (nI 0) hs
def sX9_likely (f_post : Nat → Int32) (f_now : Nat → Int32) (f_weights : Nat → Int32) (f_above : Int64) (f_below : Int64) (x1 : Int32) (x2 : Int32) (x3 : Int32) : Option (Int32 × (Nat → Int32) × Int64 × Int64) :=
  vb (sX9_isActor f_post x1) fun z1 =>
  vi (z1 = 0) inferInstance (
    some ((-1), f_weights, f_above, f_below)) (
    vb (sX9_isWord f_post x2) fun z3 =>
    vi (z3 = 0) inferInstance (
      some ((-1), f_weights, f_above, f_below)) (
      vb (sX9_in (Int32.toInt64 x3) (lN 0) (lN 1)) fun z5 =>
      vi (z5 = 0) inferInstance (
        some ((-1), f_weights, f_above, f_below)) (
        vb (sX9_weighActor f_post f_weights f_now x1) fun z7 =>
        vb (sX9_sumOf f_post z7) fun z8 =>
        vg (vin x2 8) (
        vi ((lg_cmp z8 (lN 0)) = 0) inferInstance (
          vb (sX9_lowest f_above f_below (Int32.toInt64 (z7 (Int32.toNatClampNeg x2))) (lN 1)) fun z13 =>
          vi (x3 = 0) inferInstance (
            some (Int64.toInt32 z13.1, z7, z13.1, z13.2)) (
            some (Int64.toInt32 z13.2, z7, z13.1, z13.2))) (
          vb (sX9_lowest f_above f_below (Int32.toInt64 (z7 (Int32.toNatClampNeg x2))) z8) fun z11 =>
          vi (x3 = 0) inferInstance (
            some (Int64.toInt32 z11.1, z7, z11.1, z11.2)) (
            some (Int64.toInt32 z11.2, z7, z11.1, z11.2)))))))
abbrev rmX9_likely : Room := { frames := 5, cells := 0, slots := 0, locals := 123 }
set_option maxHeartbeats 4000000 in
set_option maxRecDepth 100000 in
theorem cX9_likely_ct (l : Launch) (D : va_G) (cI : ClassId) (h : Nat) (a_post : Nat) (a_read : Nat) (a_now : Nat) (a_aside : Nat) (a_past : Nat) (a_kept : Nat) (a_sights : Nat) (a_text : Nat) (a_weights : Nat) (a_tried : Nat) (a_row : Nat) (a_who : Nat) (a_order : Nat) (a_bestOrder : Nat) (a_costs : Nat) (a_taken : Nat) (f_undos : Int32) (f_keptMany : Int32) (f_sightMany : Int32) (f_size : Int32) (f_at : Int32) (f_value : Int32) (f_above : Int64) (f_below : Int64) (f_paid : Int32) (f_post : Nat → Int32) (f_now : Nat → Int32) (f_weights : Nat → Int32) (x1 : Int32) (x2 : Int32) (x3 : Int32) {z : Int32 × (Nat → Int32) × Int64 × Int64} (hs : sX9_likely f_post f_now f_weights f_above f_below x1 x2 x3 = some z) : ct l yX9_likely (.code yX9_likely cX9_likely 6 (some .int) :: gtb) rmX9_likely D cI [.ref h, .int x1, .int x2, .int x3] [oX9 h a_post a_read a_now a_aside a_past f_undos a_kept f_keptMany a_sights f_sightMany a_text f_size f_at f_value a_weights a_tried f_above f_below f_paid a_row a_who a_order a_bestOrder a_costs a_taken, aI cI a_post 52 f_post, aI cI a_now 50 f_now, aI cI a_weights 8 f_weights] (some (.int z.1)) [oX9 h a_post a_read a_now a_aside a_past f_undos a_kept f_keptMany a_sights f_sightMany a_text f_size f_at f_value a_weights a_tried z.2.2.1 z.2.2.2 f_paid a_row a_who a_order a_bestOrder a_costs a_taken, aI cI a_post 52 f_post, aI cI a_now 50 f_now, aI cI a_weights 8 z.2.1] := by
  refine ct_ofI (own := RX9) (by decide +kernel) rfl (Nat.le_of_ble_eq_true rfl) (fun X C hD hR => ?_)
  unfold sX9_likely at hs
  show gg cI X 6 0 0 [oX9 h a_post a_read a_now a_aside a_past f_undos a_kept f_keptMany a_sights f_sightMany a_text f_size f_at f_value a_weights a_tried f_above f_below f_paid a_row a_who a_order a_bestOrder a_costs a_taken, aI cI a_post 52 f_post, aI cI a_now 50 f_now, aI cI a_weights 8 f_weights] [(0, .ref h), (1, .int x1), (2, .int x2), (3, .int x3)] 0 []
  refine g_aload_n (pl := 0) C dX9_likely_0 rfl rfl ?_
  refine g_iload_n (pl := 1) C dX9_likely_1 rfl rfl ?_
  obtain ⟨z1, e_z1, hs⟩ := vb_ok hs
  refine g_callV (ws' := [oX9 h a_post a_read a_now a_aside a_past f_undos a_kept f_keptMany a_sights f_sightMany a_text f_size f_at f_value a_weights a_tried f_above f_below f_paid a_row a_who a_order a_bestOrder a_costs a_taken, aI cI a_post 52 f_post, aI cI a_now 50 f_now, aI cI a_weights 8 f_weights]) (rest := []) (st' := [.int z1]) C mX9_165 q5_61 [.int x1] (fun l D => cX9_isActor_ct l D cI h a_post a_read a_now a_aside a_past a_kept a_sights a_text a_weights a_tried a_row a_who a_order a_bestOrder a_costs a_taken f_undos f_keptMany f_sightMany f_size f_at f_value f_above f_below f_paid f_post x1 e_z1) ⟨⟨rfl, rfl⟩, Nat.le_of_ble_eq_true rfl, Nat.le_of_ble_eq_true rfl⟩ 0 rfl rfl rfl [0, 1] rfl rfl rfl rfl rfl (Nat.le_of_ble_eq_true rfl) (Nat.zero_le _) (Nat.zero_le _) rfl dX9_likely_2 ?_
  refine g_if_eq (tgt := 26) C dX9_likely_5 (by decide) (fun c2 => ?_) (fun c2 => ?_)
  · replace hs := vi_t hs c2
    refine g_iconst (v := (-1)) C dX9_likely_26 rfl ?_
    cases hs
    exact hR _ _ dX9_likely_27
  · replace hs := vi_f hs c2
    refine g_aload_n (pl := 0) C dX9_likely_8 rfl rfl ?_
    refine g_iload_n (pl := 2) C dX9_likely_9 rfl rfl ?_
    obtain ⟨z3, e_z3, hs⟩ := vb_ok hs
    refine g_callV (ws' := [oX9 h a_post a_read a_now a_aside a_past f_undos a_kept f_keptMany a_sights f_sightMany a_text f_size f_at f_value a_weights a_tried f_above f_below f_paid a_row a_who a_order a_bestOrder a_costs a_taken, aI cI a_post 52 f_post, aI cI a_now 50 f_now, aI cI a_weights 8 f_weights]) (rest := []) (st' := [.int z3]) C mX9_155 q5_37 [.int x2] (fun l D => cX9_isWord_ct l D cI h a_post a_read a_now a_aside a_past a_kept a_sights a_text a_weights a_tried a_row a_who a_order a_bestOrder a_costs a_taken f_undos f_keptMany f_sightMany f_size f_at f_value f_above f_below f_paid f_post x2 e_z3) ⟨⟨rfl, rfl⟩, Nat.le_of_ble_eq_true rfl, Nat.le_of_ble_eq_true rfl⟩ 0 rfl rfl rfl [0, 1] rfl rfl rfl rfl rfl (Nat.le_of_ble_eq_true rfl) (Nat.zero_le _) (Nat.zero_le _) rfl dX9_likely_10 ?_
    refine g_if_eq (tgt := 26) C dX9_likely_13 (by decide) (fun c4 => ?_) (fun c4 => ?_)
    · replace hs := vi_t hs c4
      refine g_iconst (v := (-1)) C dX9_likely_26 rfl ?_
      cases hs
      exact hR _ _ dX9_likely_27
    · replace hs := vi_f hs c4
      refine g_iload_n (pl := 3) C dX9_likely_16 rfl rfl ?_
      refine g_i2l C dX9_likely_17 ?_
      refine g_lconst (v := (lN 0)) C dX9_likely_18 rfl ?_
      refine g_lconst (v := (lN 1)) C dX9_likely_19 rfl ?_
      obtain ⟨z5, e_z5, hs⟩ := vb_ok hs
      refine g_callS (ws' := [oX9 h a_post a_read a_now a_aside a_past f_undos a_kept f_keptMany a_sights f_sightMany a_text f_size f_at f_value a_weights a_tried f_above f_below f_paid a_row a_who a_order a_bestOrder a_costs a_taken, aI cI a_post 52 f_post, aI cI a_now 50 f_now, aI cI a_weights 8 f_weights]) (rest := []) (st' := [.int z5]) C mX9_82 q4_199 [.long (Int32.toInt64 x3), .long (lN 0), .long (lN 1)] (fun l D => cX9_in_ct l D cI (Int32.toInt64 x3) (lN 0) (lN 1) e_z5) ⟨⟨rfl, rfl⟩, Nat.le_of_ble_eq_true rfl, Nat.le_of_ble_eq_true rfl⟩ rfl [] rfl rfl rfl rfl rfl (Nat.le_of_ble_eq_true rfl) (Nat.zero_le _) (Nat.zero_le _) rfl dX9_likely_20 ?_
      refine g_if_ne (tgt := 28) C dX9_likely_23 (by decide) (fun c6 => ?_) (fun c6 => ?_)
      · replace hs := vi_f hs c6
        refine g_aload_n (pl := 0) C dX9_likely_28 rfl rfl ?_
        refine g_aload_n (pl := 0) C dX9_likely_29 rfl rfl ?_
        refine g_get C fX9_16 0 rfl rfl dX9_likely_30 ?_
        refine g_iload_n (pl := 1) C dX9_likely_33 rfl rfl ?_
        obtain ⟨z7, e_z7, hs⟩ := vb_ok hs
        refine g_callV (ws' := [oX9 h a_post a_read a_now a_aside a_past f_undos a_kept f_keptMany a_sights f_sightMany a_text f_size f_at f_value a_weights a_tried f_above f_below f_paid a_row a_who a_order a_bestOrder a_costs a_taken, aI cI a_post 52 f_post, aI cI a_now 50 f_now, aI cI a_weights 8 z7]) (rest := []) (st' := []) C mX9_183 q5_73 [.ref a_now, .int x1] (fun l D => cX9_weighActor_ct l D cI h a_post a_read a_now a_aside a_past a_kept a_sights a_text a_weights a_tried a_row a_who a_order a_bestOrder a_costs a_taken a_now f_undos f_keptMany f_sightMany f_size f_at f_value f_above f_below f_paid f_post f_weights f_now x1 e_z7) ⟨⟨rfl, rfl⟩, Nat.le_of_ble_eq_true rfl, Nat.le_of_ble_eq_true rfl⟩ 0 rfl rfl rfl [0, 1, 3, 2] rfl rfl rfl rfl rfl (Nat.le_of_ble_eq_true rfl) (Nat.zero_le _) (Nat.zero_le _) rfl dX9_likely_34 ?_
        refine g_aload_n (pl := 0) C dX9_likely_37 rfl rfl ?_
        refine g_aload_n (pl := 0) C dX9_likely_38 rfl rfl ?_
        refine g_get C fX9_34 0 rfl rfl dX9_likely_39 ?_
        obtain ⟨z8, e_z8, hs⟩ := vb_ok hs
        refine g_callV (ws' := [oX9 h a_post a_read a_now a_aside a_past f_undos a_kept f_keptMany a_sights f_sightMany a_text f_size f_at f_value a_weights a_tried f_above f_below f_paid a_row a_who a_order a_bestOrder a_costs a_taken, aI cI a_post 52 f_post, aI cI a_now 50 f_now, aI cI a_weights 8 z7]) (rest := []) (st' := [.long z8]) C mX9_198 q5_97 [.ref a_weights] (fun l D => cX9_sumOf_ct l D cI h a_post a_read a_now a_aside a_past a_kept a_sights a_text a_weights a_tried a_row a_who a_order a_bestOrder a_costs a_taken a_weights f_undos f_keptMany f_sightMany f_size f_at f_value f_above f_below f_paid f_post z7 e_z8) ⟨⟨rfl, rfl⟩, Nat.le_of_ble_eq_true rfl, Nat.le_of_ble_eq_true rfl⟩ 0 rfl rfl rfl [0, 1, 3] rfl rfl rfl rfl rfl (Nat.le_of_ble_eq_true rfl) (Nat.zero_le _) (Nat.zero_le _) rfl dX9_likely_42 ?_
        refine g_lstore (lv' := [(4, .long z8), (0, .ref h), (1, .int x1), (2, .int x2), (3, .int x3)]) C dX9_likely_45 (by decide) rfl ?_
        refine g_aload_n (pl := 1) C dX9_likely_47 rfl rfl ?_
        refine g_aload_n (pl := 1) C dX9_likely_48 rfl rfl ?_
        refine g_get C fX9_34 0 rfl rfl dX9_likely_49 ?_
        refine g_iload_n (pl := 3) C dX9_likely_52 rfl rfl ?_
        obtain ⟨b9, hs⟩ := vg_ok hs
        refine g_iald C 3 rfl (vin_ok b9) dX9_likely_53 ?_
        refine g_i2l C dX9_likely_54 ?_
        refine g_lload (pl := 0) C dX9_likely_55 rfl ?_
        refine g_lconst (v := (lN 0)) C dX9_likely_57 rfl ?_
        refine g_lcmp C dX9_likely_58 ?_
        refine g_if_ne (tgt := 66) C dX9_likely_59 (by decide) (fun c10 => ?_) (fun c10 => ?_)
        · replace hs := vi_f hs c10
          refine g_lload (pl := 0) C dX9_likely_66 rfl ?_
          obtain ⟨z11, e_z11, hs⟩ := vb_ok hs
          refine g_callV (ws' := [oX9 h a_post a_read a_now a_aside a_past f_undos a_kept f_keptMany a_sights f_sightMany a_text f_size f_at f_value a_weights a_tried z11.1 z11.2 f_paid a_row a_who a_order a_bestOrder a_costs a_taken, aI cI a_post 52 f_post, aI cI a_now 50 f_now, aI cI a_weights 8 z7]) (rest := []) (st' := []) C mX9_202 q5_101 [.long (Int32.toInt64 (z7 (Int32.toNatClampNeg x2))), .long z8] (fun l D => cX9_lowest_ct l D cI h a_post a_read a_now a_aside a_past a_kept a_sights a_text a_weights a_tried a_row a_who a_order a_bestOrder a_costs a_taken f_undos f_keptMany f_sightMany f_size f_at f_value f_above f_below f_paid (Int32.toInt64 (z7 (Int32.toNatClampNeg x2))) z8 e_z11) ⟨⟨rfl, rfl⟩, Nat.le_of_ble_eq_true rfl, Nat.le_of_ble_eq_true rfl⟩ 0 rfl rfl rfl [0] rfl rfl rfl rfl rfl (Nat.le_of_ble_eq_true rfl) (Nat.zero_le _) (Nat.zero_le _) rfl dX9_likely_68 ?_
          refine g_iload_n (pl := 4) C dX9_likely_71 rfl rfl ?_
          refine g_if_ne (tgt := 82) C dX9_likely_72 (by decide) (fun c12 => ?_) (fun c12 => ?_)
          · replace hs := vi_f hs c12
            refine g_aload_n (pl := 1) C dX9_likely_82 rfl rfl ?_
            refine g_get C fX9_195 0 rfl rfl dX9_likely_83 ?_
            refine g_l2i C dX9_likely_86 ?_
            cases hs
            exact hR _ _ dX9_likely_87
          · replace hs := vi_t hs c12
            refine g_aload_n (pl := 1) C dX9_likely_75 rfl rfl ?_
            refine g_get C fX9_191 0 rfl rfl dX9_likely_76 ?_
            refine g_goto (tgt := 86) C dX9_likely_79 (by decide) ?_
            refine g_l2i C dX9_likely_86 ?_
            cases hs
            exact hR _ _ dX9_likely_87
        · replace hs := vi_t hs c10
          refine g_lconst (v := (lN 1)) C dX9_likely_62 rfl ?_
          refine g_goto (tgt := 68) C dX9_likely_63 (by decide) ?_
          obtain ⟨z13, e_z13, hs⟩ := vb_ok hs
          refine g_callV (ws' := [oX9 h a_post a_read a_now a_aside a_past f_undos a_kept f_keptMany a_sights f_sightMany a_text f_size f_at f_value a_weights a_tried z13.1 z13.2 f_paid a_row a_who a_order a_bestOrder a_costs a_taken, aI cI a_post 52 f_post, aI cI a_now 50 f_now, aI cI a_weights 8 z7]) (rest := []) (st' := []) C mX9_202 q5_101 [.long (Int32.toInt64 (z7 (Int32.toNatClampNeg x2))), .long (lN 1)] (fun l D => cX9_lowest_ct l D cI h a_post a_read a_now a_aside a_past a_kept a_sights a_text a_weights a_tried a_row a_who a_order a_bestOrder a_costs a_taken f_undos f_keptMany f_sightMany f_size f_at f_value f_above f_below f_paid (Int32.toInt64 (z7 (Int32.toNatClampNeg x2))) (lN 1) e_z13) ⟨⟨rfl, rfl⟩, Nat.le_of_ble_eq_true rfl, Nat.le_of_ble_eq_true rfl⟩ 0 rfl rfl rfl [0] rfl rfl rfl rfl rfl (Nat.le_of_ble_eq_true rfl) (Nat.zero_le _) (Nat.zero_le _) rfl dX9_likely_68 ?_
          refine g_iload_n (pl := 4) C dX9_likely_71 rfl rfl ?_
          refine g_if_ne (tgt := 82) C dX9_likely_72 (by decide) (fun c14 => ?_) (fun c14 => ?_)
          · replace hs := vi_f hs c14
            refine g_aload_n (pl := 1) C dX9_likely_82 rfl rfl ?_
            refine g_get C fX9_195 0 rfl rfl dX9_likely_83 ?_
            refine g_l2i C dX9_likely_86 ?_
            cases hs
            exact hR _ _ dX9_likely_87
          · replace hs := vi_t hs c14
            refine g_aload_n (pl := 1) C dX9_likely_75 rfl rfl ?_
            refine g_get C fX9_191 0 rfl rfl dX9_likely_76 ?_
            refine g_goto (tgt := 86) C dX9_likely_79 (by decide) ?_
            refine g_l2i C dX9_likely_86 ?_
            cases hs
            exact hR _ _ dX9_likely_87
      · replace hs := vi_t hs c6
        refine g_iconst (v := (-1)) C dX9_likely_26 rfl ?_
        cases hs
        exact hR _ _ dX9_likely_27
def sX9_next (f_post : Nat → Int32) (f_now : Nat → Int32) (f_weights : Nat → Int32) (x1 : Int32) : Option (Int32 × (Nat → Int32)) :=
  vb (sX9_isActor f_post x1) fun z1 =>
  vi (z1 = 0) inferInstance (
    some ((-1), f_weights)) (
    vb (sX9_waits f_now x1) fun z3 =>
    vi (z3 = 0) inferInstance (
      some ((-2), f_weights)) (
      vb (sX9_nextAt f_post f_weights f_now x1) fun z5 =>
      some (z5.1, z5.2)))
abbrev rmX9_next : Room := { frames := 6, cells := 0, slots := 0, locals := 145 }
set_option maxHeartbeats 4000000 in
set_option maxRecDepth 100000 in
theorem cX9_next_ct (l : Launch) (D : va_G) (cI : ClassId) (h : Nat) (a_post : Nat) (a_read : Nat) (a_now : Nat) (a_aside : Nat) (a_past : Nat) (a_kept : Nat) (a_sights : Nat) (a_text : Nat) (a_weights : Nat) (a_tried : Nat) (a_row : Nat) (a_who : Nat) (a_order : Nat) (a_bestOrder : Nat) (a_costs : Nat) (a_taken : Nat) (f_undos : Int32) (f_keptMany : Int32) (f_sightMany : Int32) (f_size : Int32) (f_at : Int32) (f_value : Int32) (f_above : Int64) (f_below : Int64) (f_paid : Int32) (f_post : Nat → Int32) (f_now : Nat → Int32) (f_weights : Nat → Int32) (x1 : Int32) {z : Int32 × (Nat → Int32)} (hs : sX9_next f_post f_now f_weights x1 = some z) : ct l yX9_next (.code yX9_next cX9_next 2 (some .int) :: gtb) rmX9_next D cI [.ref h, .int x1] [oX9 h a_post a_read a_now a_aside a_past f_undos a_kept f_keptMany a_sights f_sightMany a_text f_size f_at f_value a_weights a_tried f_above f_below f_paid a_row a_who a_order a_bestOrder a_costs a_taken, aI cI a_post 52 f_post, aI cI a_now 50 f_now, aI cI a_weights 8 f_weights] (some (.int z.1)) [oX9 h a_post a_read a_now a_aside a_past f_undos a_kept f_keptMany a_sights f_sightMany a_text f_size f_at f_value a_weights a_tried f_above f_below f_paid a_row a_who a_order a_bestOrder a_costs a_taken, aI cI a_post 52 f_post, aI cI a_now 50 f_now, aI cI a_weights 8 z.2] := by
  refine ct_ofI (own := RX9) (by decide +kernel) rfl (Nat.le_of_ble_eq_true rfl) (fun X C hD hR => ?_)
  unfold sX9_next at hs
  show gg cI X 2 0 0 [oX9 h a_post a_read a_now a_aside a_past f_undos a_kept f_keptMany a_sights f_sightMany a_text f_size f_at f_value a_weights a_tried f_above f_below f_paid a_row a_who a_order a_bestOrder a_costs a_taken, aI cI a_post 52 f_post, aI cI a_now 50 f_now, aI cI a_weights 8 f_weights] [(0, .ref h), (1, .int x1)] 0 []
  refine g_aload_n (pl := 0) C dX9_next_0 rfl rfl ?_
  refine g_iload_n (pl := 1) C dX9_next_1 rfl rfl ?_
  obtain ⟨z1, e_z1, hs⟩ := vb_ok hs
  refine g_callV (ws' := [oX9 h a_post a_read a_now a_aside a_past f_undos a_kept f_keptMany a_sights f_sightMany a_text f_size f_at f_value a_weights a_tried f_above f_below f_paid a_row a_who a_order a_bestOrder a_costs a_taken, aI cI a_post 52 f_post, aI cI a_now 50 f_now, aI cI a_weights 8 f_weights]) (rest := []) (st' := [.int z1]) C mX9_165 q5_61 [.int x1] (fun l D => cX9_isActor_ct l D cI h a_post a_read a_now a_aside a_past a_kept a_sights a_text a_weights a_tried a_row a_who a_order a_bestOrder a_costs a_taken f_undos f_keptMany f_sightMany f_size f_at f_value f_above f_below f_paid f_post x1 e_z1) ⟨⟨rfl, rfl⟩, Nat.le_of_ble_eq_true rfl, Nat.le_of_ble_eq_true rfl⟩ 0 rfl rfl rfl [0, 1] rfl rfl rfl rfl rfl (Nat.le_of_ble_eq_true rfl) (Nat.zero_le _) (Nat.zero_le _) rfl dX9_next_2 ?_
  refine g_if_ne (tgt := 10) C dX9_next_5 (by decide) (fun c2 => ?_) (fun c2 => ?_)
  · replace hs := vi_f hs c2
    refine g_aload_n (pl := 0) C dX9_next_10 rfl rfl ?_
    refine g_iload_n (pl := 1) C dX9_next_11 rfl rfl ?_
    obtain ⟨z3, e_z3, hs⟩ := vb_ok hs
    refine g_callV (ws' := [oX9 h a_post a_read a_now a_aside a_past f_undos a_kept f_keptMany a_sights f_sightMany a_text f_size f_at f_value a_weights a_tried f_above f_below f_paid a_row a_who a_order a_bestOrder a_costs a_taken, aI cI a_post 52 f_post, aI cI a_now 50 f_now, aI cI a_weights 8 f_weights]) (rest := []) (st' := [.int z3]) C mX9_206 q5_109 [.int x1] (fun l D => cX9_waits_ct l D cI h a_post a_read a_now a_aside a_past a_kept a_sights a_text a_weights a_tried a_row a_who a_order a_bestOrder a_costs a_taken f_undos f_keptMany f_sightMany f_size f_at f_value f_above f_below f_paid f_now x1 e_z3) ⟨⟨rfl, rfl⟩, Nat.le_of_ble_eq_true rfl, Nat.le_of_ble_eq_true rfl⟩ 0 rfl rfl rfl [0, 2] rfl rfl rfl rfl rfl (Nat.le_of_ble_eq_true rfl) (Nat.zero_le _) (Nat.zero_le _) rfl dX9_next_12 ?_
    refine g_if_eq (tgt := 30) C dX9_next_15 (by decide) (fun c4 => ?_) (fun c4 => ?_)
    · replace hs := vi_t hs c4
      refine g_bipush (v := (-2)) C dX9_next_30 rfl ?_
      cases hs
      exact hR _ _ dX9_next_32
    · replace hs := vi_f hs c4
      refine g_aload_n (pl := 0) C dX9_next_18 rfl rfl ?_
      refine g_aload_n (pl := 0) C dX9_next_19 rfl rfl ?_
      refine g_get C fX9_16 0 rfl rfl dX9_next_20 ?_
      refine g_iload_n (pl := 1) C dX9_next_23 rfl rfl ?_
      obtain ⟨z5, e_z5, hs⟩ := vb_ok hs
      refine g_callV (ws' := [oX9 h a_post a_read a_now a_aside a_past f_undos a_kept f_keptMany a_sights f_sightMany a_text f_size f_at f_value a_weights a_tried f_above f_below f_paid a_row a_who a_order a_bestOrder a_costs a_taken, aI cI a_post 52 f_post, aI cI a_now 50 f_now, aI cI a_weights 8 z5.2]) (rest := []) (st' := [.int z5.1]) C mX9_209 q5_113 [.ref a_now, .int x1] (fun l D => cX9_nextAt_ct l D cI h a_post a_read a_now a_aside a_past a_kept a_sights a_text a_weights a_tried a_row a_who a_order a_bestOrder a_costs a_taken a_now f_undos f_keptMany f_sightMany f_size f_at f_value f_above f_below f_paid f_post f_weights f_now x1 e_z5) ⟨⟨rfl, rfl⟩, Nat.le_of_ble_eq_true rfl, Nat.le_of_ble_eq_true rfl⟩ 0 rfl rfl rfl [0, 1, 3, 2] rfl rfl rfl rfl rfl (Nat.le_of_ble_eq_true rfl) (Nat.zero_le _) (Nat.zero_le _) rfl dX9_next_24 ?_
      refine g_goto (tgt := 32) C dX9_next_27 (by decide) ?_
      cases hs
      exact hR _ _ dX9_next_32
  · replace hs := vi_t hs c2
    refine g_iconst (v := (-1)) C dX9_next_8 rfl ?_
    cases hs
    exact hR _ _ dX9_next_9
def LX9_remember_11 (f_now : Nat → Int32) (f_undos : Int32) : Nat → Int32 → (Nat → Int32) → Option ((Nat → Int32) × Int32)
  | 0, _, _ => none
  | n + 1, y_1, f_past =>
    vi ((nI 350) ≤ y_1) inferInstance (
      vlet (f_undos - (nI 1)) fun y2 =>
      vb (sX9_copies 50 400 f_now f_past (nI 0) ((nI 50) * y2) (nI 50)) fun z3 =>
      vlet (y2 + (nI 1)) fun y4 =>
      some (z3, y4)) (
      vg (vin (y_1 + (nI 50)) 400) (
      vlet (f_past (Int32.toNatClampNeg (y_1 + (nI 50)))) fun y6 =>
      vg (vin y_1 400) (
      vlet (upd f_past (Int32.toNatClampNeg y_1) y6) fun u8 =>
      vlet (y_1 + (nI 1)) fun y9 =>
      LX9_remember_11 f_now f_undos n y9 u8)))
def sX9_remember (f_now : Nat → Int32) (f_past : Nat → Int32) (f_undos : Int32) : Option ((Nat → Int32) × Int32) :=
  vi (f_undos = (nI 8)) inferInstance (
    LX9_remember_11 f_now f_undos vF (nI 0) f_past) (
    vb (sX9_copies 50 400 f_now f_past (nI 0) ((nI 50) * f_undos) (nI 50)) fun z11 =>
    vlet (f_undos + (nI 1)) fun y12 =>
    some (z11, y12))
abbrev rmX9_remember : Room := { frames := 1, cells := 0, slots := 0, locals := 25 }
set_option maxHeartbeats 4000000 in
set_option maxRecDepth 100000 in
theorem LX9_remember_11_w {cI : ClassId} {X : xT} (C : cx cI X 2 cX9_remember RX9 rmX9_remember) (h : Nat) (a_post : Nat) (a_read : Nat) (a_now : Nat) (a_aside : Nat) (a_past : Nat) (a_kept : Nat) (a_sights : Nat) (a_text : Nat) (a_weights : Nat) (a_tried : Nat) (a_row : Nat) (a_who : Nat) (a_order : Nat) (a_bestOrder : Nat) (a_costs : Nat) (a_taken : Nat) (f_undos : Int32) (f_keptMany : Int32) (f_sightMany : Int32) (f_size : Int32) (f_at : Int32) (f_value : Int32) (f_above : Int64) (f_below : Int64) (f_paid : Int32) (f_now : Nat → Int32) {z : (Nat → Int32) × Int32} (hR : ∀ (lv : List (Nat × Value)) (pc : Nat), decode cX9_remember pc = .ok (.return_, 1) → gg cI X 2 0 0 [oX9 h a_post a_read a_now a_aside a_past z.2 a_kept f_keptMany a_sights f_sightMany a_text f_size f_at f_value a_weights a_tried f_above f_below f_paid a_row a_who a_order a_bestOrder a_costs a_taken, aI cI a_now 50 f_now, aI cI a_past 400 z.1] lv pc []) : ∀ (n : Nat) (y_1 : Int32) (f_past : Nat → Int32), LX9_remember_11 f_now f_undos n y_1 f_past = some z → gg cI X 2 0 0 [oX9 h a_post a_read a_now a_aside a_past f_undos a_kept f_keptMany a_sights f_sightMany a_text f_size f_at f_value a_weights a_tried f_above f_below f_paid a_row a_who a_order a_bestOrder a_costs a_taken, aI cI a_now 50 f_now, aI cI a_past 400 f_past] [(0, .ref h), (1, .int y_1)] 11 [] := by
  intro n
  induction n with
  | zero =>
    intro y_1 f_past hs
    exact nn_ok hs
  | succ n ih =>
    intro y_1 f_past hs
    rw [LX9_remember_11] at hs
    refine g_iload_n (pl := 1) C dX9_remember_11 rfl rfl ?_
    refine g_sipush (v := (nI 350)) C dX9_remember_12 rfl ?_
    refine g_icmp_ge (tgt := 39) C dX9_remember_15 (by decide) (fun c1 => ?_) (fun c1 => ?_)
    · replace hs := vi_t hs c1
      refine g_aload_n (pl := 0) C dX9_remember_39 rfl rfl ?_
      refine g_dup C dX9_remember_40 rfl ?_
      refine g_get C fX9_68 0 rfl rfl dX9_remember_41 ?_
      refine g_iconst (v := (nI 1)) C dX9_remember_44 rfl ?_
      refine g_isub C dX9_remember_45 ?_
      obtain ⟨y2, e_y2, hs⟩ := vlet_ex hs
      refine g_topi e_y2 ?_
      refine g_putI (ws' := [oX9 h a_post a_read a_now a_aside a_past y2 a_kept f_keptMany a_sights f_sightMany a_text f_size f_at f_value a_weights a_tried f_above f_below f_paid a_row a_who a_order a_bestOrder a_costs a_taken, aI cI a_now 50 f_now, aI cI a_past 400 f_past]) C fX9_68 0 rfl (Nat.le_of_ble_eq_true rfl) rfl dX9_remember_46 ?_
      refine g_aload_n (pl := 0) C dX9_remember_49 rfl rfl ?_
      refine g_get C fX9_16 0 rfl rfl dX9_remember_50 ?_
      refine g_iconst (v := (nI 0)) C dX9_remember_53 rfl ?_
      refine g_aload_n (pl := 0) C dX9_remember_54 rfl rfl ?_
      refine g_get C fX9_22 0 rfl rfl dX9_remember_55 ?_
      refine g_bipush (v := (nI 50)) C dX9_remember_58 rfl ?_
      refine g_aload_n (pl := 0) C dX9_remember_60 rfl rfl ?_
      refine g_get C fX9_68 0 rfl rfl dX9_remember_61 ?_
      refine g_imul C dX9_remember_64 ?_
      refine g_bipush (v := (nI 50)) C dX9_remember_65 rfl ?_
      obtain ⟨z3, e_z3, hs⟩ := vb_ok hs
      refine g_callS (ws' := [oX9 h a_post a_read a_now a_aside a_past y2 a_kept f_keptMany a_sights f_sightMany a_text f_size f_at f_value a_weights a_tried f_above f_below f_paid a_row a_who a_order a_bestOrder a_costs a_taken, aI cI a_now 50 f_now, aI cI a_past 400 z3]) (rest := []) (st' := []) C mX9_148 q5_29 [.ref a_now, .int (nI 0), .ref a_past, .int ((nI 50) * y2), .int (nI 50)] (fun l D => cX9_copies_ct l D cI a_now a_past 50 400 f_now f_past (nI 0) ((nI 50) * y2) (nI 50) e_z3) ⟨⟨rfl, rfl⟩, Nat.le_of_ble_eq_true rfl, Nat.le_of_ble_eq_true rfl⟩ rfl [1, 2] rfl rfl rfl rfl rfl (Nat.le_of_ble_eq_true rfl) (Nat.zero_le _) (Nat.zero_le _) rfl dX9_remember_67 ?_
      refine g_aload_n (pl := 0) C dX9_remember_70 rfl rfl ?_
      refine g_dup C dX9_remember_71 rfl ?_
      refine g_get C fX9_68 0 rfl rfl dX9_remember_72 ?_
      refine g_iconst (v := (nI 1)) C dX9_remember_75 rfl ?_
      refine g_iadd C dX9_remember_76 ?_
      obtain ⟨y4, e_y4, hs⟩ := vlet_ex hs
      refine g_topi e_y4 ?_
      refine g_putI (ws' := [oX9 h a_post a_read a_now a_aside a_past y4 a_kept f_keptMany a_sights f_sightMany a_text f_size f_at f_value a_weights a_tried f_above f_below f_paid a_row a_who a_order a_bestOrder a_costs a_taken, aI cI a_now 50 f_now, aI cI a_past 400 z3]) C fX9_68 0 rfl (Nat.le_of_ble_eq_true rfl) rfl dX9_remember_77 ?_
      cases hs
      exact hR _ _ dX9_remember_80
    · replace hs := vi_f hs c1
      refine g_aload_n (pl := 0) C dX9_remember_18 rfl rfl ?_
      refine g_get C fX9_22 0 rfl rfl dX9_remember_19 ?_
      refine g_iload_n (pl := 1) C dX9_remember_22 rfl rfl ?_
      refine g_aload_n (pl := 0) C dX9_remember_23 rfl rfl ?_
      refine g_get C fX9_22 0 rfl rfl dX9_remember_24 ?_
      refine g_iload_n (pl := 1) C dX9_remember_27 rfl rfl ?_
      refine g_bipush (v := (nI 50)) C dX9_remember_28 rfl ?_
      refine g_iadd C dX9_remember_30 ?_
      obtain ⟨b5, hs⟩ := vg_ok hs
      refine g_iald C 2 rfl (vin_ok b5) dX9_remember_31 ?_
      obtain ⟨y6, e_y6, hs⟩ := vlet_ex hs
      refine g_topi e_y6 ?_
      obtain ⟨b7, hs⟩ := vg_ok hs
      obtain ⟨u8, e_u8, hs⟩ := vlet_ex hs
      refine g_iast (ws' := [oX9 h a_post a_read a_now a_aside a_past f_undos a_kept f_keptMany a_sights f_sightMany a_text f_size f_at f_value a_weights a_tried f_above f_below f_paid a_row a_who a_order a_bestOrder a_costs a_taken, aI cI a_now 50 f_now, aI cI a_past 400 u8]) C 2 rfl (vin_ok b7) (by rw [e_u8]; rfl) dX9_remember_32 ?_
      obtain ⟨y9, e_y9, hs⟩ := vlet_ex hs
      refine g_iinc (pl := 1) (lv' := [(1, .int y9), (0, .ref h)]) C dX9_remember_33 rfl e_y9.symm (by decide) rfl ?_
      refine g_goto (tgt := 11) C dX9_remember_36 (by decide) ?_
      refine g_sub [1, 0] rfl ?_
      exact ih y9 u8 hs
set_option maxHeartbeats 4000000 in
set_option maxRecDepth 100000 in
theorem cX9_remember_ct (l : Launch) (D : va_G) (cI : ClassId) (h : Nat) (a_post : Nat) (a_read : Nat) (a_now : Nat) (a_aside : Nat) (a_past : Nat) (a_kept : Nat) (a_sights : Nat) (a_text : Nat) (a_weights : Nat) (a_tried : Nat) (a_row : Nat) (a_who : Nat) (a_order : Nat) (a_bestOrder : Nat) (a_costs : Nat) (a_taken : Nat) (f_undos : Int32) (f_keptMany : Int32) (f_sightMany : Int32) (f_size : Int32) (f_at : Int32) (f_value : Int32) (f_above : Int64) (f_below : Int64) (f_paid : Int32) (f_now : Nat → Int32) (f_past : Nat → Int32) {z : (Nat → Int32) × Int32} (hs : sX9_remember f_now f_past f_undos = some z) : ct l yX9_remember (.code yX9_remember cX9_remember 2 none :: gtb) rmX9_remember D cI [.ref h] [oX9 h a_post a_read a_now a_aside a_past f_undos a_kept f_keptMany a_sights f_sightMany a_text f_size f_at f_value a_weights a_tried f_above f_below f_paid a_row a_who a_order a_bestOrder a_costs a_taken, aI cI a_now 50 f_now, aI cI a_past 400 f_past] none [oX9 h a_post a_read a_now a_aside a_past z.2 a_kept f_keptMany a_sights f_sightMany a_text f_size f_at f_value a_weights a_tried f_above f_below f_paid a_row a_who a_order a_bestOrder a_costs a_taken, aI cI a_now 50 f_now, aI cI a_past 400 z.1] := by
  refine ct_ofV (own := RX9) (by decide +kernel) rfl (Nat.le_of_ble_eq_true rfl) (fun X C hD hR => ?_)
  unfold sX9_remember at hs
  show gg cI X 2 0 0 [oX9 h a_post a_read a_now a_aside a_past f_undos a_kept f_keptMany a_sights f_sightMany a_text f_size f_at f_value a_weights a_tried f_above f_below f_paid a_row a_who a_order a_bestOrder a_costs a_taken, aI cI a_now 50 f_now, aI cI a_past 400 f_past] [(0, .ref h)] 0 []
  refine g_aload_n (pl := 0) C dX9_remember_0 rfl rfl ?_
  refine g_get C fX9_68 0 rfl rfl dX9_remember_1 ?_
  refine g_bipush (v := (nI 8)) C dX9_remember_4 rfl ?_
  refine g_icmp_ne (tgt := 49) C dX9_remember_6 (by decide) (fun c10 => ?_) (fun c10 => ?_)
  · replace hs := vi_f hs c10
    refine g_aload_n (pl := 0) C dX9_remember_49 rfl rfl ?_
    refine g_get C fX9_16 0 rfl rfl dX9_remember_50 ?_
    refine g_iconst (v := (nI 0)) C dX9_remember_53 rfl ?_
    refine g_aload_n (pl := 0) C dX9_remember_54 rfl rfl ?_
    refine g_get C fX9_22 0 rfl rfl dX9_remember_55 ?_
    refine g_bipush (v := (nI 50)) C dX9_remember_58 rfl ?_
    refine g_aload_n (pl := 0) C dX9_remember_60 rfl rfl ?_
    refine g_get C fX9_68 0 rfl rfl dX9_remember_61 ?_
    refine g_imul C dX9_remember_64 ?_
    refine g_bipush (v := (nI 50)) C dX9_remember_65 rfl ?_
    obtain ⟨z11, e_z11, hs⟩ := vb_ok hs
    refine g_callS (ws' := [oX9 h a_post a_read a_now a_aside a_past f_undos a_kept f_keptMany a_sights f_sightMany a_text f_size f_at f_value a_weights a_tried f_above f_below f_paid a_row a_who a_order a_bestOrder a_costs a_taken, aI cI a_now 50 f_now, aI cI a_past 400 z11]) (rest := []) (st' := []) C mX9_148 q5_29 [.ref a_now, .int (nI 0), .ref a_past, .int ((nI 50) * f_undos), .int (nI 50)] (fun l D => cX9_copies_ct l D cI a_now a_past 50 400 f_now f_past (nI 0) ((nI 50) * f_undos) (nI 50) e_z11) ⟨⟨rfl, rfl⟩, Nat.le_of_ble_eq_true rfl, Nat.le_of_ble_eq_true rfl⟩ rfl [1, 2] rfl rfl rfl rfl rfl (Nat.le_of_ble_eq_true rfl) (Nat.zero_le _) (Nat.zero_le _) rfl dX9_remember_67 ?_
    refine g_aload_n (pl := 0) C dX9_remember_70 rfl rfl ?_
    refine g_dup C dX9_remember_71 rfl ?_
    refine g_get C fX9_68 0 rfl rfl dX9_remember_72 ?_
    refine g_iconst (v := (nI 1)) C dX9_remember_75 rfl ?_
    refine g_iadd C dX9_remember_76 ?_
    obtain ⟨y12, e_y12, hs⟩ := vlet_ex hs
    refine g_topi e_y12 ?_
    refine g_putI (ws' := [oX9 h a_post a_read a_now a_aside a_past y12 a_kept f_keptMany a_sights f_sightMany a_text f_size f_at f_value a_weights a_tried f_above f_below f_paid a_row a_who a_order a_bestOrder a_costs a_taken, aI cI a_now 50 f_now, aI cI a_past 400 z11]) C fX9_68 0 rfl (Nat.le_of_ble_eq_true rfl) rfl dX9_remember_77 ?_
    cases hs
    exact hR _ _ dX9_remember_80
  · replace hs := vi_t hs c10
    refine g_iconst (v := (nI 0)) C dX9_remember_9 rfl ?_
    refine g_istore_n (lv' := [(1, .int (nI 0)), (0, .ref h)]) C dX9_remember_10 rfl (by decide) rfl ?_
    refine g_sub [1, 0] rfl ?_
    exact LX9_remember_11_w C h a_post a_read a_now a_aside a_past a_kept a_sights a_text a_weights a_tried a_row a_who a_order a_bestOrder a_costs a_taken f_undos f_keptMany f_sightMany f_size f_at f_value f_above f_below f_paid f_now hR _ (nI 0) f_past hs
def sX9_mayShow (f_p1 : Nat → Int32) (x2 : Int32) : Option (Int32) :=
  vg (vin ((nI 20) + x2) 50) (
  vi ((f_p1 (Int32.toNatClampNeg ((nI 20) + x2))) = 0) inferInstance (
    vg (vin ((nI 10) + x2) 50) (
    vi ((nI 5) ≤ (f_p1 (Int32.toNatClampNeg ((nI 10) + x2)))) inferInstance (
      some ((nI 0))) (
      some ((nI 1))))) (
    some ((nI 0))))
abbrev rmX9_mayShow : Room := { frames := 0, cells := 0, slots := 0, locals := 0 }
set_option maxHeartbeats 4000000 in
set_option maxRecDepth 100000 in
theorem cX9_mayShow_ct (l : Launch) (D : va_G) (cI : ClassId) (a_p1 : Nat) (f_p1 : Nat → Int32) (x2 : Int32) {z : Int32} (hs : sX9_mayShow f_p1 x2 = some z) : ct l yX9_mayShow (.code yX9_mayShow cX9_mayShow 2 (some .boolean) :: gtb) rmX9_mayShow D cI [.ref a_p1, .int x2] [aI cI a_p1 50 f_p1] (some (.int z)) [aI cI a_p1 50 f_p1] := by
  refine ct_ofZ (own := RX9) (by decide +kernel) rfl (Nat.le_of_ble_eq_true rfl) (fun X C hD hR => ?_)
  unfold sX9_mayShow at hs
  show gg cI X 2 0 0 [aI cI a_p1 50 f_p1] [(0, .ref a_p1), (1, .int x2)] 0 []
  refine g_aload_n (pl := 0) C dX9_mayShow_0 rfl rfl ?_
  refine g_bipush (v := (nI 20)) C dX9_mayShow_1 rfl ?_
  refine g_iload_n (pl := 1) C dX9_mayShow_3 rfl rfl ?_
  refine g_iadd C dX9_mayShow_4 ?_
  obtain ⟨b1, hs⟩ := vg_ok hs
  refine g_iald C 0 rfl (vin_ok b1) dX9_mayShow_5 ?_
  refine g_if_ne (tgt := 23) C dX9_mayShow_6 (by decide) (fun c2 => ?_) (fun c2 => ?_)
  · replace hs := vi_f hs c2
    refine g_iconst (v := (nI 0)) C dX9_mayShow_23 rfl ?_
    cases hs
    exact hR _ _ (Or.inl rfl) dX9_mayShow_24
  · replace hs := vi_t hs c2
    refine g_aload_n (pl := 0) C dX9_mayShow_9 rfl rfl ?_
    refine g_bipush (v := (nI 10)) C dX9_mayShow_10 rfl ?_
    refine g_iload_n (pl := 1) C dX9_mayShow_12 rfl rfl ?_
    refine g_iadd C dX9_mayShow_13 ?_
    obtain ⟨b3, hs⟩ := vg_ok hs
    refine g_iald C 0 rfl (vin_ok b3) dX9_mayShow_14 ?_
    refine g_iconst (v := (nI 5)) C dX9_mayShow_15 rfl ?_
    refine g_icmp_ge (tgt := 23) C dX9_mayShow_16 (by decide) (fun c4 => ?_) (fun c4 => ?_)
    · replace hs := vi_t hs c4
      refine g_iconst (v := (nI 0)) C dX9_mayShow_23 rfl ?_
      cases hs
      exact hR _ _ (Or.inl rfl) dX9_mayShow_24
    · replace hs := vi_f hs c4
      refine g_iconst (v := (nI 1)) C dX9_mayShow_19 rfl ?_
      refine g_goto (tgt := 24) C dX9_mayShow_20 (by decide) ?_
      cases hs
      exact hR _ _ (Or.inr rfl) dX9_mayShow_24
def sX9_shows (f_post : Nat → Int32) (f_p1 : Nat → Int32) (x2 : Int32) (x3 : Int32) : Option (Int32 × (Nat → Int32)) :=
  vb (sX9_has (f_post (Int32.toNatClampNeg (nI 3))) x3) fun z1 =>
  vi (z1 = 0) inferInstance (
    vg (vin ((nI 10) + x2) 50) (
    vg (vin (((nI 25) + ((nI 5) * x2)) + (f_p1 (Int32.toNatClampNeg ((nI 10) + x2)))) 50) (
    vlet (upd f_p1 (Int32.toNatClampNeg (((nI 25) + ((nI 5) * x2)) + (f_p1 (Int32.toNatClampNeg ((nI 10) + x2))))) x3) fun u5 =>
    vg (vin ((nI 10) + x2) 50) (
    vlet ((u5 (Int32.toNatClampNeg ((nI 10) + x2))) + (nI 1)) fun y7 =>
    vg (vin ((nI 10) + x2) 50) (
    vlet (upd u5 (Int32.toNatClampNeg ((nI 10) + x2)) y7) fun u9 =>
    some ((nI 1), u9)))))) (
    vg (vin ((nI 20) + x2) 50) (
    vlet (upd f_p1 (Int32.toNatClampNeg ((nI 20) + x2)) (nI 3)) fun u11 =>
    some ((nI 0), u11)))
abbrev rmX9_shows : Room := { frames := 1, cells := 0, slots := 0, locals := 21 }
set_option maxHeartbeats 4000000 in
set_option maxRecDepth 100000 in
theorem cX9_shows_ct (l : Launch) (D : va_G) (cI : ClassId) (h : Nat) (a_post : Nat) (a_read : Nat) (a_now : Nat) (a_aside : Nat) (a_past : Nat) (a_kept : Nat) (a_sights : Nat) (a_text : Nat) (a_weights : Nat) (a_tried : Nat) (a_row : Nat) (a_who : Nat) (a_order : Nat) (a_bestOrder : Nat) (a_costs : Nat) (a_taken : Nat) (a_p1 : Nat) (f_undos : Int32) (f_keptMany : Int32) (f_sightMany : Int32) (f_size : Int32) (f_at : Int32) (f_value : Int32) (f_above : Int64) (f_below : Int64) (f_paid : Int32) (f_post : Nat → Int32) (f_p1 : Nat → Int32) (x2 : Int32) (x3 : Int32) {z : Int32 × (Nat → Int32)} (hs : sX9_shows f_post f_p1 x2 x3 = some z) : ct l yX9_shows (.code yX9_shows cX9_shows 4 (some .int) :: gtb) rmX9_shows D cI [.ref h, .ref a_p1, .int x2, .int x3] [oX9 h a_post a_read a_now a_aside a_past f_undos a_kept f_keptMany a_sights f_sightMany a_text f_size f_at f_value a_weights a_tried f_above f_below f_paid a_row a_who a_order a_bestOrder a_costs a_taken, aI cI a_post 52 f_post, aI cI a_p1 50 f_p1] (some (.int z.1)) [oX9 h a_post a_read a_now a_aside a_past f_undos a_kept f_keptMany a_sights f_sightMany a_text f_size f_at f_value a_weights a_tried f_above f_below f_paid a_row a_who a_order a_bestOrder a_costs a_taken, aI cI a_post 52 f_post, aI cI a_p1 50 z.2] := by
  refine ct_ofI (own := RX9) (by decide +kernel) rfl (Nat.le_of_ble_eq_true rfl) (fun X C hD hR => ?_)
  unfold sX9_shows at hs
  show gg cI X 4 0 0 [oX9 h a_post a_read a_now a_aside a_past f_undos a_kept f_keptMany a_sights f_sightMany a_text f_size f_at f_value a_weights a_tried f_above f_below f_paid a_row a_who a_order a_bestOrder a_costs a_taken, aI cI a_post 52 f_post, aI cI a_p1 50 f_p1] [(0, .ref h), (1, .ref a_p1), (2, .int x2), (3, .int x3)] 0 []
  refine g_aload_n (pl := 0) C dX9_shows_0 rfl rfl ?_
  refine g_get C fX9_7 0 rfl rfl dX9_shows_1 ?_
  refine g_iconst (v := (nI 3)) C dX9_shows_4 rfl ?_
  refine g_iald C 1 rfl (vin_ok rfl) dX9_shows_5 ?_
  refine g_iload_n (pl := 3) C dX9_shows_6 rfl rfl ?_
  obtain ⟨z1, e_z1, hs⟩ := vb_ok hs
  refine g_callS (ws' := [oX9 h a_post a_read a_now a_aside a_past f_undos a_kept f_keptMany a_sights f_sightMany a_text f_size f_at f_value a_weights a_tried f_above f_below f_paid a_row a_who a_order a_bestOrder a_costs a_taken, aI cI a_post 52 f_post, aI cI a_p1 50 f_p1]) (rest := []) (st' := [.int z1]) C mX9_120 q5_6 [.int (f_post (Int32.toNatClampNeg (nI 3))), .int x3] (fun l D => cX9_has_ct l D cI (f_post (Int32.toNatClampNeg (nI 3))) x3 e_z1) ⟨⟨rfl, rfl⟩, Nat.le_of_ble_eq_true rfl, Nat.le_of_ble_eq_true rfl⟩ rfl [] rfl rfl rfl rfl rfl (Nat.le_of_ble_eq_true rfl) (Nat.zero_le _) (Nat.zero_le _) rfl dX9_shows_7 ?_
  refine g_if_eq (tgt := 22) C dX9_shows_10 (by decide) (fun c2 => ?_) (fun c2 => ?_)
  · replace hs := vi_t hs c2
    refine g_aload_n (pl := 1) C dX9_shows_22 rfl rfl ?_
    refine g_bipush (v := (nI 25)) C dX9_shows_23 rfl ?_
    refine g_iconst (v := (nI 5)) C dX9_shows_25 rfl ?_
    refine g_iload_n (pl := 2) C dX9_shows_26 rfl rfl ?_
    refine g_imul C dX9_shows_27 ?_
    refine g_iadd C dX9_shows_28 ?_
    refine g_aload_n (pl := 1) C dX9_shows_29 rfl rfl ?_
    refine g_bipush (v := (nI 10)) C dX9_shows_30 rfl ?_
    refine g_iload_n (pl := 2) C dX9_shows_32 rfl rfl ?_
    refine g_iadd C dX9_shows_33 ?_
    obtain ⟨b3, hs⟩ := vg_ok hs
    refine g_iald C 2 rfl (vin_ok b3) dX9_shows_34 ?_
    refine g_iadd C dX9_shows_35 ?_
    refine g_iload_n (pl := 3) C dX9_shows_36 rfl rfl ?_
    obtain ⟨b4, hs⟩ := vg_ok hs
    obtain ⟨u5, e_u5, hs⟩ := vlet_ex hs
    refine g_iast (ws' := [oX9 h a_post a_read a_now a_aside a_past f_undos a_kept f_keptMany a_sights f_sightMany a_text f_size f_at f_value a_weights a_tried f_above f_below f_paid a_row a_who a_order a_bestOrder a_costs a_taken, aI cI a_post 52 f_post, aI cI a_p1 50 u5]) C 2 rfl (vin_ok b4) (by rw [e_u5]; rfl) dX9_shows_37 ?_
    refine g_aload_n (pl := 1) C dX9_shows_38 rfl rfl ?_
    refine g_bipush (v := (nI 10)) C dX9_shows_39 rfl ?_
    refine g_iload_n (pl := 2) C dX9_shows_41 rfl rfl ?_
    refine g_iadd C dX9_shows_42 ?_
    refine g_dup2 C dX9_shows_43 rfl rfl ?_
    obtain ⟨b6, hs⟩ := vg_ok hs
    refine g_iald C 2 rfl (vin_ok b6) dX9_shows_44 ?_
    refine g_iconst (v := (nI 1)) C dX9_shows_45 rfl ?_
    refine g_iadd C dX9_shows_46 ?_
    obtain ⟨y7, e_y7, hs⟩ := vlet_ex hs
    refine g_topi e_y7 ?_
    obtain ⟨b8, hs⟩ := vg_ok hs
    obtain ⟨u9, e_u9, hs⟩ := vlet_ex hs
    refine g_iast (ws' := [oX9 h a_post a_read a_now a_aside a_past f_undos a_kept f_keptMany a_sights f_sightMany a_text f_size f_at f_value a_weights a_tried f_above f_below f_paid a_row a_who a_order a_bestOrder a_costs a_taken, aI cI a_post 52 f_post, aI cI a_p1 50 u9]) C 2 rfl (vin_ok b8) (by rw [e_u9]; rfl) dX9_shows_47 ?_
    refine g_iconst (v := (nI 1)) C dX9_shows_48 rfl ?_
    cases hs
    exact hR _ _ dX9_shows_49
  · replace hs := vi_f hs c2
    refine g_aload_n (pl := 1) C dX9_shows_13 rfl rfl ?_
    refine g_bipush (v := (nI 20)) C dX9_shows_14 rfl ?_
    refine g_iload_n (pl := 2) C dX9_shows_16 rfl rfl ?_
    refine g_iadd C dX9_shows_17 ?_
    refine g_iconst (v := (nI 3)) C dX9_shows_18 rfl ?_
    obtain ⟨b10, hs⟩ := vg_ok hs
    obtain ⟨u11, e_u11, hs⟩ := vlet_ex hs
    refine g_iast (ws' := [oX9 h a_post a_read a_now a_aside a_past f_undos a_kept f_keptMany a_sights f_sightMany a_text f_size f_at f_value a_weights a_tried f_above f_below f_paid a_row a_who a_order a_bestOrder a_costs a_taken, aI cI a_post 52 f_post, aI cI a_p1 50 u11]) C 2 rfl (vin_ok b10) (by rw [e_u11]; rfl) dX9_shows_19 ?_
    refine g_iconst (v := (nI 0)) C dX9_shows_20 rfl ?_
    cases hs
    exact hR _ _ dX9_shows_21
def sX9_show (f_post : Nat → Int32) (f_now : Nat → Int32) (f_past : Nat → Int32) (f_undos : Int32) (x1 : Int32) (x2 : Int32) : Option (Int32 × (Nat → Int32) × (Nat → Int32) × Int32) :=
  vb (sX9_isActor f_post x1) fun z1 =>
  vi (z1 = 0) inferInstance (
    some ((-1), f_now, f_past, f_undos)) (
    vb (sX9_isSign f_post x2) fun z3 =>
    vi (z3 = 0) inferInstance (
      some ((-1), f_now, f_past, f_undos)) (
      vb (sX9_mayShow f_now x1) fun z5 =>
      vi (z5 = 0) inferInstance (
        some ((-2), f_now, f_past, f_undos)) (
        vb (sX9_remember f_now f_past f_undos) fun z7 =>
        vb (sX9_shows f_post f_now x1 x2) fun z8 =>
        some (z8.1, z8.2, z7.1, z7.2))))
abbrev rmX9_show : Room := { frames := 2, cells := 0, slots := 0, locals := 46 }
set_option maxHeartbeats 4000000 in
set_option maxRecDepth 100000 in
theorem cX9_show_ct (l : Launch) (D : va_G) (cI : ClassId) (h : Nat) (a_post : Nat) (a_read : Nat) (a_now : Nat) (a_aside : Nat) (a_past : Nat) (a_kept : Nat) (a_sights : Nat) (a_text : Nat) (a_weights : Nat) (a_tried : Nat) (a_row : Nat) (a_who : Nat) (a_order : Nat) (a_bestOrder : Nat) (a_costs : Nat) (a_taken : Nat) (f_undos : Int32) (f_keptMany : Int32) (f_sightMany : Int32) (f_size : Int32) (f_at : Int32) (f_value : Int32) (f_above : Int64) (f_below : Int64) (f_paid : Int32) (f_post : Nat → Int32) (f_now : Nat → Int32) (f_past : Nat → Int32) (x1 : Int32) (x2 : Int32) {z : Int32 × (Nat → Int32) × (Nat → Int32) × Int32} (hs : sX9_show f_post f_now f_past f_undos x1 x2 = some z) : ct l yX9_show (.code yX9_show cX9_show 3 (some .int) :: gtb) rmX9_show D cI [.ref h, .int x1, .int x2] [oX9 h a_post a_read a_now a_aside a_past f_undos a_kept f_keptMany a_sights f_sightMany a_text f_size f_at f_value a_weights a_tried f_above f_below f_paid a_row a_who a_order a_bestOrder a_costs a_taken, aI cI a_post 52 f_post, aI cI a_now 50 f_now, aI cI a_past 400 f_past] (some (.int z.1)) [oX9 h a_post a_read a_now a_aside a_past z.2.2.2 a_kept f_keptMany a_sights f_sightMany a_text f_size f_at f_value a_weights a_tried f_above f_below f_paid a_row a_who a_order a_bestOrder a_costs a_taken, aI cI a_post 52 f_post, aI cI a_now 50 z.2.1, aI cI a_past 400 z.2.2.1] := by
  refine ct_ofI (own := RX9) (by decide +kernel) rfl (Nat.le_of_ble_eq_true rfl) (fun X C hD hR => ?_)
  unfold sX9_show at hs
  show gg cI X 3 0 0 [oX9 h a_post a_read a_now a_aside a_past f_undos a_kept f_keptMany a_sights f_sightMany a_text f_size f_at f_value a_weights a_tried f_above f_below f_paid a_row a_who a_order a_bestOrder a_costs a_taken, aI cI a_post 52 f_post, aI cI a_now 50 f_now, aI cI a_past 400 f_past] [(0, .ref h), (1, .int x1), (2, .int x2)] 0 []
  refine g_aload_n (pl := 0) C dX9_show_0 rfl rfl ?_
  refine g_iload_n (pl := 1) C dX9_show_1 rfl rfl ?_
  obtain ⟨z1, e_z1, hs⟩ := vb_ok hs
  refine g_callV (ws' := [oX9 h a_post a_read a_now a_aside a_past f_undos a_kept f_keptMany a_sights f_sightMany a_text f_size f_at f_value a_weights a_tried f_above f_below f_paid a_row a_who a_order a_bestOrder a_costs a_taken, aI cI a_post 52 f_post, aI cI a_now 50 f_now, aI cI a_past 400 f_past]) (rest := []) (st' := [.int z1]) C mX9_165 q5_61 [.int x1] (fun l D => cX9_isActor_ct l D cI h a_post a_read a_now a_aside a_past a_kept a_sights a_text a_weights a_tried a_row a_who a_order a_bestOrder a_costs a_taken f_undos f_keptMany f_sightMany f_size f_at f_value f_above f_below f_paid f_post x1 e_z1) ⟨⟨rfl, rfl⟩, Nat.le_of_ble_eq_true rfl, Nat.le_of_ble_eq_true rfl⟩ 0 rfl rfl rfl [0, 1] rfl rfl rfl rfl rfl (Nat.le_of_ble_eq_true rfl) (Nat.zero_le _) (Nat.zero_le _) rfl dX9_show_2 ?_
  refine g_if_eq (tgt := 16) C dX9_show_5 (by decide) (fun c2 => ?_) (fun c2 => ?_)
  · replace hs := vi_t hs c2
    refine g_iconst (v := (-1)) C dX9_show_16 rfl ?_
    cases hs
    exact hR _ _ dX9_show_17
  · replace hs := vi_f hs c2
    refine g_aload_n (pl := 0) C dX9_show_8 rfl rfl ?_
    refine g_iload_n (pl := 2) C dX9_show_9 rfl rfl ?_
    obtain ⟨z3, e_z3, hs⟩ := vb_ok hs
    refine g_callV (ws' := [oX9 h a_post a_read a_now a_aside a_past f_undos a_kept f_keptMany a_sights f_sightMany a_text f_size f_at f_value a_weights a_tried f_above f_below f_paid a_row a_who a_order a_bestOrder a_costs a_taken, aI cI a_post 52 f_post, aI cI a_now 50 f_now, aI cI a_past 400 f_past]) (rest := []) (st' := [.int z3]) C mX9_162 q5_49 [.int x2] (fun l D => cX9_isSign_ct l D cI h a_post a_read a_now a_aside a_past a_kept a_sights a_text a_weights a_tried a_row a_who a_order a_bestOrder a_costs a_taken f_undos f_keptMany f_sightMany f_size f_at f_value f_above f_below f_paid f_post x2 e_z3) ⟨⟨rfl, rfl⟩, Nat.le_of_ble_eq_true rfl, Nat.le_of_ble_eq_true rfl⟩ 0 rfl rfl rfl [0, 1] rfl rfl rfl rfl rfl (Nat.le_of_ble_eq_true rfl) (Nat.zero_le _) (Nat.zero_le _) rfl dX9_show_10 ?_
    refine g_if_ne (tgt := 18) C dX9_show_13 (by decide) (fun c4 => ?_) (fun c4 => ?_)
    · replace hs := vi_f hs c4
      refine g_aload_n (pl := 0) C dX9_show_18 rfl rfl ?_
      refine g_get C fX9_16 0 rfl rfl dX9_show_19 ?_
      refine g_iload_n (pl := 1) C dX9_show_22 rfl rfl ?_
      obtain ⟨z5, e_z5, hs⟩ := vb_ok hs
      refine g_callS (ws' := [oX9 h a_post a_read a_now a_aside a_past f_undos a_kept f_keptMany a_sights f_sightMany a_text f_size f_at f_value a_weights a_tried f_above f_below f_paid a_row a_who a_order a_bestOrder a_costs a_taken, aI cI a_post 52 f_post, aI cI a_now 50 f_now, aI cI a_past 400 f_past]) (rest := []) (st' := [.int z5]) C mX9_213 q5_124 [.ref a_now, .int x1] (fun l D => cX9_mayShow_ct l D cI a_now f_now x1 e_z5) ⟨⟨rfl, rfl⟩, Nat.le_of_ble_eq_true rfl, Nat.le_of_ble_eq_true rfl⟩ rfl [2] rfl rfl rfl rfl rfl (Nat.le_of_ble_eq_true rfl) (Nat.zero_le _) (Nat.zero_le _) rfl dX9_show_23 ?_
      refine g_if_ne (tgt := 32) C dX9_show_26 (by decide) (fun c6 => ?_) (fun c6 => ?_)
      · replace hs := vi_f hs c6
        refine g_aload_n (pl := 0) C dX9_show_32 rfl rfl ?_
        obtain ⟨z7, e_z7, hs⟩ := vb_ok hs
        refine g_callV (ws' := [oX9 h a_post a_read a_now a_aside a_past z7.2 a_kept f_keptMany a_sights f_sightMany a_text f_size f_at f_value a_weights a_tried f_above f_below f_paid a_row a_who a_order a_bestOrder a_costs a_taken, aI cI a_post 52 f_post, aI cI a_now 50 f_now, aI cI a_past 400 z7.1]) (rest := []) (st' := []) C mX9_217 q5_128 [] (fun l D => cX9_remember_ct l D cI h a_post a_read a_now a_aside a_past a_kept a_sights a_text a_weights a_tried a_row a_who a_order a_bestOrder a_costs a_taken f_undos f_keptMany f_sightMany f_size f_at f_value f_above f_below f_paid f_now f_past e_z7) ⟨⟨rfl, rfl⟩, Nat.le_of_ble_eq_true rfl, Nat.le_of_ble_eq_true rfl⟩ 0 rfl rfl rfl [0, 2, 3] rfl rfl rfl rfl rfl (Nat.le_of_ble_eq_true rfl) (Nat.zero_le _) (Nat.zero_le _) rfl dX9_show_33 ?_
        refine g_aload_n (pl := 0) C dX9_show_36 rfl rfl ?_
        refine g_aload_n (pl := 0) C dX9_show_37 rfl rfl ?_
        refine g_get C fX9_16 0 rfl rfl dX9_show_38 ?_
        refine g_iload_n (pl := 1) C dX9_show_41 rfl rfl ?_
        refine g_iload_n (pl := 2) C dX9_show_42 rfl rfl ?_
        obtain ⟨z8, e_z8, hs⟩ := vb_ok hs
        refine g_callV (ws' := [oX9 h a_post a_read a_now a_aside a_past z7.2 a_kept f_keptMany a_sights f_sightMany a_text f_size f_at f_value a_weights a_tried f_above f_below f_paid a_row a_who a_order a_bestOrder a_costs a_taken, aI cI a_post 52 f_post, aI cI a_now 50 z8.2, aI cI a_past 400 z7.1]) (rest := []) (st' := [.int z8.1]) C mX9_220 q5_132 [.ref a_now, .int x1, .int x2] (fun l D => cX9_shows_ct l D cI h a_post a_read a_now a_aside a_past a_kept a_sights a_text a_weights a_tried a_row a_who a_order a_bestOrder a_costs a_taken a_now z7.2 f_keptMany f_sightMany f_size f_at f_value f_above f_below f_paid f_post f_now x1 x2 e_z8) ⟨⟨rfl, rfl⟩, Nat.le_of_ble_eq_true rfl, Nat.le_of_ble_eq_true rfl⟩ 0 rfl rfl rfl [0, 1, 2] rfl rfl rfl rfl rfl (Nat.le_of_ble_eq_true rfl) (Nat.zero_le _) (Nat.zero_le _) rfl dX9_show_43 ?_
        cases hs
        exact hR _ _ dX9_show_46
      · replace hs := vi_t hs c6
        refine g_bipush (v := (-2)) C dX9_show_29 rfl ?_
        cases hs
        exact hR _ _ dX9_show_31
    · replace hs := vi_t hs c4
      refine g_iconst (v := (-1)) C dX9_show_16 rfl ?_
      cases hs
      exact hR _ _ dX9_show_17
def sX9_guesses (f_post : Nat → Int32) (f_weights : Nat → Int32) (f_paid : Int32) (f_p1 : Nat → Int32) (x2 : Int32) : Option (Int32 × (Nat → Int32) × Int32 × (Nat → Int32)) :=
  vb (sX9_nextAt f_post f_weights f_p1 x2) fun z1 =>
  vi (z1.1 = (-4)) inferInstance (
    vg (vin ((nI 20) + x2) 50) (
    vlet (upd f_p1 (Int32.toNatClampNeg ((nI 20) + x2)) (nI 2)) fun u37 =>
    some (z1.1, z1.2, (nI 0), u37))) (
    vg (vin ((nI 0) + x2) 50) (
    vi (z1.1 = (f_p1 (Int32.toNatClampNeg ((nI 0) + x2)))) inferInstance (
      vg (vin ((nI 10) + x2) 50) (
      vlet ((f_post (Int32.toNatClampNeg (nI 6))) * (f_p1 (Int32.toNatClampNeg ((nI 10) + x2)))) fun y17 =>
      vg (vin ((nI 5) + x2) 50) (
      vi ((f_p1 (Int32.toNatClampNeg ((nI 5) + x2))) < y17) inferInstance (
        vg (vin ((nI 5) + x2) 50) (
        vlet ((f_p1 (Int32.toNatClampNeg ((nI 5) + x2))) - (nI 0)) fun y22 =>
        vg (vin ((nI 5) + x2) 50) (
        vlet (upd f_p1 (Int32.toNatClampNeg ((nI 5) + x2)) y22) fun u24 =>
        vg (vin ((nI 20) + x2) 50) (
        vlet (upd u24 (Int32.toNatClampNeg ((nI 20) + x2)) (nI 2)) fun u27 =>
        some (z1.1, z1.2, (nI 0), u27))))) (
        vg (vin ((nI 5) + x2) 50) (
        vlet ((f_p1 (Int32.toNatClampNeg ((nI 5) + x2))) - y17) fun y30 =>
        vg (vin ((nI 5) + x2) 50) (
        vlet (upd f_p1 (Int32.toNatClampNeg ((nI 5) + x2)) y30) fun u32 =>
        vg (vin ((nI 20) + x2) 50) (
        vlet (upd u32 (Int32.toNatClampNeg ((nI 20) + x2)) (nI 1)) fun u35 =>
        some (z1.1, z1.2, y17, u35)))))))) (
      vg (vin ((nI 15) + x2) 50) (
      vlet ((f_p1 (Int32.toNatClampNeg ((nI 15) + x2))) ||| ((nI 1) <<< (z1.1 &&& 31))) fun y6 =>
      vg (vin ((nI 15) + x2) 50) (
      vlet (upd f_p1 (Int32.toNatClampNeg ((nI 15) + x2)) y6) fun u8 =>
      vg (vin ((nI 15) + x2) 50) (
      vb (sX9_bits (u8 (Int32.toNatClampNeg ((nI 15) + x2)))) fun z10 =>
      vi (z10 = (nI 3)) inferInstance (
        vg (vin ((nI 20) + x2) 50) (
        vlet (upd u8 (Int32.toNatClampNeg ((nI 20) + x2)) (nI 2)) fun u15 =>
        some (z1.1, z1.2, (nI 0), u15))) (
        vg (vin ((nI 20) + x2) 50) (
        vlet (upd u8 (Int32.toNatClampNeg ((nI 20) + x2)) (nI 0)) fun u13 =>
        some (z1.1, z1.2, (nI 0), u13)))))))))
abbrev rmX9_guesses : Room := { frames := 6, cells := 0, slots := 0, locals := 145 }
set_option maxHeartbeats 4000000 in
set_option maxRecDepth 100000 in
theorem cX9_guesses_ct (l : Launch) (D : va_G) (cI : ClassId) (h : Nat) (a_post : Nat) (a_read : Nat) (a_now : Nat) (a_aside : Nat) (a_past : Nat) (a_kept : Nat) (a_sights : Nat) (a_text : Nat) (a_weights : Nat) (a_tried : Nat) (a_row : Nat) (a_who : Nat) (a_order : Nat) (a_bestOrder : Nat) (a_costs : Nat) (a_taken : Nat) (a_p1 : Nat) (f_undos : Int32) (f_keptMany : Int32) (f_sightMany : Int32) (f_size : Int32) (f_at : Int32) (f_value : Int32) (f_above : Int64) (f_below : Int64) (f_paid : Int32) (f_post : Nat → Int32) (f_weights : Nat → Int32) (f_p1 : Nat → Int32) (x2 : Int32) {z : Int32 × (Nat → Int32) × Int32 × (Nat → Int32)} (hs : sX9_guesses f_post f_weights f_paid f_p1 x2 = some z) : ct l yX9_guesses (.code yX9_guesses cX9_guesses 6 (some .int) :: gtb) rmX9_guesses D cI [.ref h, .ref a_p1, .int x2] [oX9 h a_post a_read a_now a_aside a_past f_undos a_kept f_keptMany a_sights f_sightMany a_text f_size f_at f_value a_weights a_tried f_above f_below f_paid a_row a_who a_order a_bestOrder a_costs a_taken, aI cI a_post 52 f_post, aI cI a_weights 8 f_weights, aI cI a_p1 50 f_p1] (some (.int z.1)) [oX9 h a_post a_read a_now a_aside a_past f_undos a_kept f_keptMany a_sights f_sightMany a_text f_size f_at f_value a_weights a_tried f_above f_below z.2.2.1 a_row a_who a_order a_bestOrder a_costs a_taken, aI cI a_post 52 f_post, aI cI a_weights 8 z.2.1, aI cI a_p1 50 z.2.2.2] := by
  refine ct_ofI (own := RX9) (by decide +kernel) rfl (Nat.le_of_ble_eq_true rfl) (fun X C hD hR => ?_)
  unfold sX9_guesses at hs
  show gg cI X 6 0 0 [oX9 h a_post a_read a_now a_aside a_past f_undos a_kept f_keptMany a_sights f_sightMany a_text f_size f_at f_value a_weights a_tried f_above f_below f_paid a_row a_who a_order a_bestOrder a_costs a_taken, aI cI a_post 52 f_post, aI cI a_weights 8 f_weights, aI cI a_p1 50 f_p1] [(0, .ref h), (1, .ref a_p1), (2, .int x2)] 0 []
  refine g_aload_n (pl := 0) C dX9_guesses_0 rfl rfl ?_
  refine g_aload_n (pl := 1) C dX9_guesses_1 rfl rfl ?_
  refine g_iload_n (pl := 2) C dX9_guesses_2 rfl rfl ?_
  obtain ⟨z1, e_z1, hs⟩ := vb_ok hs
  refine g_callV (ws' := [oX9 h a_post a_read a_now a_aside a_past f_undos a_kept f_keptMany a_sights f_sightMany a_text f_size f_at f_value a_weights a_tried f_above f_below f_paid a_row a_who a_order a_bestOrder a_costs a_taken, aI cI a_post 52 f_post, aI cI a_weights 8 z1.2, aI cI a_p1 50 f_p1]) (rest := []) (st' := [.int z1.1]) C mX9_209 q5_113 [.ref a_p1, .int x2] (fun l D => cX9_nextAt_ct l D cI h a_post a_read a_now a_aside a_past a_kept a_sights a_text a_weights a_tried a_row a_who a_order a_bestOrder a_costs a_taken a_p1 f_undos f_keptMany f_sightMany f_size f_at f_value f_above f_below f_paid f_post f_weights f_p1 x2 e_z1) ⟨⟨rfl, rfl⟩, Nat.le_of_ble_eq_true rfl, Nat.le_of_ble_eq_true rfl⟩ 0 rfl rfl rfl [0, 1, 2, 3] rfl rfl rfl rfl rfl (Nat.le_of_ble_eq_true rfl) (Nat.zero_le _) (Nat.zero_le _) rfl dX9_guesses_3 ?_
  refine g_istore_n (lv' := [(3, .int z1.1), (0, .ref h), (1, .ref a_p1), (2, .int x2)]) C dX9_guesses_6 rfl (by decide) rfl ?_
  refine g_aload_n (pl := 1) C dX9_guesses_7 rfl rfl ?_
  refine g_iconst (v := (nI 0)) C dX9_guesses_8 rfl ?_
  refine g_putI (ws' := [oX9 h a_post a_read a_now a_aside a_past f_undos a_kept f_keptMany a_sights f_sightMany a_text f_size f_at f_value a_weights a_tried f_above f_below (nI 0) a_row a_who a_order a_bestOrder a_costs a_taken, aI cI a_post 52 f_post, aI cI a_weights 8 z1.2, aI cI a_p1 50 f_p1]) C fX9_224 0 rfl (Nat.le_of_ble_eq_true rfl) rfl dX9_guesses_9 ?_
  refine g_iload_n (pl := 0) C dX9_guesses_12 rfl rfl ?_
  refine g_bipush (v := (-4)) C dX9_guesses_13 rfl ?_
  refine g_icmp_ne (tgt := 28) C dX9_guesses_15 (by decide) (fun c2 => ?_) (fun c2 => ?_)
  · replace hs := vi_f hs c2
    refine g_iload_n (pl := 0) C dX9_guesses_28 rfl rfl ?_
    refine g_aload_n (pl := 2) C dX9_guesses_29 rfl rfl ?_
    refine g_iconst (v := (nI 0)) C dX9_guesses_30 rfl ?_
    refine g_iload_n (pl := 3) C dX9_guesses_31 rfl rfl ?_
    refine g_iadd C dX9_guesses_32 ?_
    obtain ⟨b3, hs⟩ := vg_ok hs
    refine g_iald C 3 rfl (vin_ok b3) dX9_guesses_33 ?_
    refine g_icmp_ne (tgt := 116) C dX9_guesses_34 (by decide) (fun c4 => ?_) (fun c4 => ?_)
    · replace hs := vi_f hs c4
      refine g_aload_n (pl := 2) C dX9_guesses_116 rfl rfl ?_
      refine g_bipush (v := (nI 15)) C dX9_guesses_117 rfl ?_
      refine g_iload_n (pl := 3) C dX9_guesses_119 rfl rfl ?_
      refine g_iadd C dX9_guesses_120 ?_
      refine g_dup2 C dX9_guesses_121 rfl rfl ?_
      obtain ⟨b5, hs⟩ := vg_ok hs
      refine g_iald C 3 rfl (vin_ok b5) dX9_guesses_122 ?_
      refine g_iconst (v := (nI 1)) C dX9_guesses_123 rfl ?_
      refine g_iload_n (pl := 0) C dX9_guesses_124 rfl rfl ?_
      refine g_ishl C dX9_guesses_125 ?_
      refine g_ior C dX9_guesses_126 ?_
      obtain ⟨y6, e_y6, hs⟩ := vlet_ex hs
      refine g_topi e_y6 ?_
      obtain ⟨b7, hs⟩ := vg_ok hs
      obtain ⟨u8, e_u8, hs⟩ := vlet_ex hs
      refine g_iast (ws' := [oX9 h a_post a_read a_now a_aside a_past f_undos a_kept f_keptMany a_sights f_sightMany a_text f_size f_at f_value a_weights a_tried f_above f_below (nI 0) a_row a_who a_order a_bestOrder a_costs a_taken, aI cI a_post 52 f_post, aI cI a_weights 8 z1.2, aI cI a_p1 50 u8]) C 3 rfl (vin_ok b7) (by rw [e_u8]; rfl) dX9_guesses_127 ?_
      refine g_aload_n (pl := 2) C dX9_guesses_128 rfl rfl ?_
      refine g_bipush (v := (nI 20)) C dX9_guesses_129 rfl ?_
      refine g_iload_n (pl := 3) C dX9_guesses_131 rfl rfl ?_
      refine g_iadd C dX9_guesses_132 ?_
      refine g_aload_n (pl := 2) C dX9_guesses_133 rfl rfl ?_
      refine g_bipush (v := (nI 15)) C dX9_guesses_134 rfl ?_
      refine g_iload_n (pl := 3) C dX9_guesses_136 rfl rfl ?_
      refine g_iadd C dX9_guesses_137 ?_
      obtain ⟨b9, hs⟩ := vg_ok hs
      refine g_iald C 3 rfl (vin_ok b9) dX9_guesses_138 ?_
      obtain ⟨z10, e_z10, hs⟩ := vb_ok hs
      refine g_callS (ws' := [oX9 h a_post a_read a_now a_aside a_past f_undos a_kept f_keptMany a_sights f_sightMany a_text f_size f_at f_value a_weights a_tried f_above f_below (nI 0) a_row a_who a_order a_bestOrder a_costs a_taken, aI cI a_post 52 f_post, aI cI a_weights 8 z1.2, aI cI a_p1 50 u8]) (rest := [.int ((nI 20) + x2), .ref a_p1]) (st' := [.int z10, .int ((nI 20) + x2), .ref a_p1]) C mX9_227 q5_143 [.int (u8 (Int32.toNatClampNeg ((nI 15) + x2)))] (fun l D => cX9_bits_ct l D cI (u8 (Int32.toNatClampNeg ((nI 15) + x2))) e_z10) ⟨⟨rfl, rfl⟩, Nat.le_of_ble_eq_true rfl, Nat.le_of_ble_eq_true rfl⟩ rfl [] rfl rfl rfl rfl rfl (Nat.le_of_ble_eq_true rfl) (Nat.zero_le _) (Nat.zero_le _) rfl dX9_guesses_139 ?_
      refine g_iconst (v := (nI 3)) C dX9_guesses_142 rfl ?_
      refine g_icmp_ne (tgt := 150) C dX9_guesses_143 (by decide) (fun c11 => ?_) (fun c11 => ?_)
      · replace hs := vi_f hs c11
        refine g_iconst (v := (nI 0)) C dX9_guesses_150 rfl ?_
        obtain ⟨b12, hs⟩ := vg_ok hs
        obtain ⟨u13, e_u13, hs⟩ := vlet_ex hs
        refine g_iast (ws' := [oX9 h a_post a_read a_now a_aside a_past f_undos a_kept f_keptMany a_sights f_sightMany a_text f_size f_at f_value a_weights a_tried f_above f_below (nI 0) a_row a_who a_order a_bestOrder a_costs a_taken, aI cI a_post 52 f_post, aI cI a_weights 8 z1.2, aI cI a_p1 50 u13]) C 3 rfl (vin_ok b12) (by rw [e_u13]; rfl) dX9_guesses_151 ?_
        refine g_iload_n (pl := 0) C dX9_guesses_152 rfl rfl ?_
        cases hs
        exact hR _ _ dX9_guesses_153
      · replace hs := vi_t hs c11
        refine g_iconst (v := (nI 2)) C dX9_guesses_146 rfl ?_
        refine g_goto (tgt := 151) C dX9_guesses_147 (by decide) ?_
        obtain ⟨b14, hs⟩ := vg_ok hs
        obtain ⟨u15, e_u15, hs⟩ := vlet_ex hs
        refine g_iast (ws' := [oX9 h a_post a_read a_now a_aside a_past f_undos a_kept f_keptMany a_sights f_sightMany a_text f_size f_at f_value a_weights a_tried f_above f_below (nI 0) a_row a_who a_order a_bestOrder a_costs a_taken, aI cI a_post 52 f_post, aI cI a_weights 8 z1.2, aI cI a_p1 50 u15]) C 3 rfl (vin_ok b14) (by rw [e_u15]; rfl) dX9_guesses_151 ?_
        refine g_iload_n (pl := 0) C dX9_guesses_152 rfl rfl ?_
        cases hs
        exact hR _ _ dX9_guesses_153
    · replace hs := vi_t hs c4
      refine g_aload_n (pl := 1) C dX9_guesses_37 rfl rfl ?_
      refine g_get C fX9_7 0 rfl rfl dX9_guesses_38 ?_
      refine g_bipush (v := (nI 6)) C dX9_guesses_41 rfl ?_
      refine g_iald C 1 rfl (vin_ok rfl) dX9_guesses_43 ?_
      refine g_aload_n (pl := 2) C dX9_guesses_44 rfl rfl ?_
      refine g_bipush (v := (nI 10)) C dX9_guesses_45 rfl ?_
      refine g_iload_n (pl := 3) C dX9_guesses_47 rfl rfl ?_
      refine g_iadd C dX9_guesses_48 ?_
      obtain ⟨b16, hs⟩ := vg_ok hs
      refine g_iald C 3 rfl (vin_ok b16) dX9_guesses_49 ?_
      refine g_imul C dX9_guesses_50 ?_
      obtain ⟨y17, e_y17, hs⟩ := vlet_ex hs
      refine g_topi e_y17 ?_
      refine g_istore (lv' := [(4, .int y17), (3, .int z1.1), (0, .ref h), (1, .ref a_p1), (2, .int x2)]) C dX9_guesses_51 (by decide) rfl ?_
      refine g_aload_n (pl := 3) C dX9_guesses_53 rfl rfl ?_
      refine g_iconst (v := (nI 5)) C dX9_guesses_54 rfl ?_
      refine g_iload_n (pl := 4) C dX9_guesses_55 rfl rfl ?_
      refine g_iadd C dX9_guesses_56 ?_
      obtain ⟨b18, hs⟩ := vg_ok hs
      refine g_iald C 3 rfl (vin_ok b18) dX9_guesses_57 ?_
      refine g_iload (pl := 0) C dX9_guesses_58 rfl ?_
      refine g_icmp_lt (tgt := 67) C dX9_guesses_60 (by decide) (fun c19 => ?_) (fun c19 => ?_)
      · replace hs := vi_t hs c19
        refine g_iconst (v := (nI 0)) C dX9_guesses_67 rfl ?_
        refine g_istore (lv' := [(5, .int (nI 0)), (4, .int y17), (3, .int z1.1), (0, .ref h), (1, .ref a_p1), (2, .int x2)]) C dX9_guesses_68 (by decide) rfl ?_
        refine g_aload_n (pl := 3) C dX9_guesses_70 rfl rfl ?_
        refine g_iload (pl := 0) C dX9_guesses_71 rfl ?_
        refine g_if_eq (tgt := 81) C dX9_guesses_73 (by decide) (fun c20 => ?_) (fun c20 => ?_)
        rotate_left
        · exact absurd c20 (by decide)
        refine g_iconst (v := (nI 0)) C dX9_guesses_81 rfl ?_
        refine g_putI (ws' := [oX9 h a_post a_read a_now a_aside a_past f_undos a_kept f_keptMany a_sights f_sightMany a_text f_size f_at f_value a_weights a_tried f_above f_below (nI 0) a_row a_who a_order a_bestOrder a_costs a_taken, aI cI a_post 52 f_post, aI cI a_weights 8 z1.2, aI cI a_p1 50 f_p1]) C fX9_224 0 rfl (Nat.le_of_ble_eq_true rfl) rfl dX9_guesses_82 ?_
        refine g_aload_n (pl := 4) C dX9_guesses_85 rfl rfl ?_
        refine g_iconst (v := (nI 5)) C dX9_guesses_86 rfl ?_
        refine g_iload_n (pl := 5) C dX9_guesses_87 rfl rfl ?_
        refine g_iadd C dX9_guesses_88 ?_
        refine g_dup2 C dX9_guesses_89 rfl rfl ?_
        obtain ⟨b21, hs⟩ := vg_ok hs
        refine g_iald C 3 rfl (vin_ok b21) dX9_guesses_90 ?_
        refine g_aload_n (pl := 3) C dX9_guesses_91 rfl rfl ?_
        refine g_get C fX9_224 0 rfl rfl dX9_guesses_92 ?_
        refine g_isub C dX9_guesses_95 ?_
        obtain ⟨y22, e_y22, hs⟩ := vlet_ex hs
        refine g_topi e_y22 ?_
        obtain ⟨b23, hs⟩ := vg_ok hs
        obtain ⟨u24, e_u24, hs⟩ := vlet_ex hs
        refine g_iast (ws' := [oX9 h a_post a_read a_now a_aside a_past f_undos a_kept f_keptMany a_sights f_sightMany a_text f_size f_at f_value a_weights a_tried f_above f_below (nI 0) a_row a_who a_order a_bestOrder a_costs a_taken, aI cI a_post 52 f_post, aI cI a_weights 8 z1.2, aI cI a_p1 50 u24]) C 3 rfl (vin_ok b23) (by rw [e_u24]; rfl) dX9_guesses_96 ?_
        refine g_aload_n (pl := 4) C dX9_guesses_97 rfl rfl ?_
        refine g_bipush (v := (nI 20)) C dX9_guesses_98 rfl ?_
        refine g_iload_n (pl := 5) C dX9_guesses_100 rfl rfl ?_
        refine g_iadd C dX9_guesses_101 ?_
        refine g_iload (pl := 0) C dX9_guesses_102 rfl ?_
        refine g_if_eq (tgt := 111) C dX9_guesses_104 (by decide) (fun c25 => ?_) (fun c25 => ?_)
        rotate_left
        · exact absurd c25 (by decide)
        refine g_iconst (v := (nI 2)) C dX9_guesses_111 rfl ?_
        obtain ⟨b26, hs⟩ := vg_ok hs
        obtain ⟨u27, e_u27, hs⟩ := vlet_ex hs
        refine g_iast (ws' := [oX9 h a_post a_read a_now a_aside a_past f_undos a_kept f_keptMany a_sights f_sightMany a_text f_size f_at f_value a_weights a_tried f_above f_below (nI 0) a_row a_who a_order a_bestOrder a_costs a_taken, aI cI a_post 52 f_post, aI cI a_weights 8 z1.2, aI cI a_p1 50 u27]) C 3 rfl (vin_ok b26) (by rw [e_u27]; rfl) dX9_guesses_112 ?_
        refine g_goto (tgt := 152) C dX9_guesses_113 (by decide) ?_
        refine g_iload_n (pl := 2) C dX9_guesses_152 rfl rfl ?_
        cases hs
        exact hR _ _ dX9_guesses_153
      · replace hs := vi_f hs c19
        refine g_iconst (v := (nI 1)) C dX9_guesses_63 rfl ?_
        refine g_goto (tgt := 68) C dX9_guesses_64 (by decide) ?_
        refine g_istore (lv' := [(5, .int (nI 1)), (4, .int y17), (3, .int z1.1), (0, .ref h), (1, .ref a_p1), (2, .int x2)]) C dX9_guesses_68 (by decide) rfl ?_
        refine g_aload_n (pl := 3) C dX9_guesses_70 rfl rfl ?_
        refine g_iload (pl := 0) C dX9_guesses_71 rfl ?_
        refine g_if_eq (tgt := 81) C dX9_guesses_73 (by decide) (fun c28 => ?_) (fun c28 => ?_)
        · exact absurd c28 (by decide)
        refine g_iload (pl := 1) C dX9_guesses_76 rfl ?_
        refine g_goto (tgt := 82) C dX9_guesses_78 (by decide) ?_
        refine g_putI (ws' := [oX9 h a_post a_read a_now a_aside a_past f_undos a_kept f_keptMany a_sights f_sightMany a_text f_size f_at f_value a_weights a_tried f_above f_below y17 a_row a_who a_order a_bestOrder a_costs a_taken, aI cI a_post 52 f_post, aI cI a_weights 8 z1.2, aI cI a_p1 50 f_p1]) C fX9_224 0 rfl (Nat.le_of_ble_eq_true rfl) rfl dX9_guesses_82 ?_
        refine g_aload_n (pl := 4) C dX9_guesses_85 rfl rfl ?_
        refine g_iconst (v := (nI 5)) C dX9_guesses_86 rfl ?_
        refine g_iload_n (pl := 5) C dX9_guesses_87 rfl rfl ?_
        refine g_iadd C dX9_guesses_88 ?_
        refine g_dup2 C dX9_guesses_89 rfl rfl ?_
        obtain ⟨b29, hs⟩ := vg_ok hs
        refine g_iald C 3 rfl (vin_ok b29) dX9_guesses_90 ?_
        refine g_aload_n (pl := 3) C dX9_guesses_91 rfl rfl ?_
        refine g_get C fX9_224 0 rfl rfl dX9_guesses_92 ?_
        refine g_isub C dX9_guesses_95 ?_
        obtain ⟨y30, e_y30, hs⟩ := vlet_ex hs
        refine g_topi e_y30 ?_
        obtain ⟨b31, hs⟩ := vg_ok hs
        obtain ⟨u32, e_u32, hs⟩ := vlet_ex hs
        refine g_iast (ws' := [oX9 h a_post a_read a_now a_aside a_past f_undos a_kept f_keptMany a_sights f_sightMany a_text f_size f_at f_value a_weights a_tried f_above f_below y17 a_row a_who a_order a_bestOrder a_costs a_taken, aI cI a_post 52 f_post, aI cI a_weights 8 z1.2, aI cI a_p1 50 u32]) C 3 rfl (vin_ok b31) (by rw [e_u32]; rfl) dX9_guesses_96 ?_
        refine g_aload_n (pl := 4) C dX9_guesses_97 rfl rfl ?_
        refine g_bipush (v := (nI 20)) C dX9_guesses_98 rfl ?_
        refine g_iload_n (pl := 5) C dX9_guesses_100 rfl rfl ?_
        refine g_iadd C dX9_guesses_101 ?_
        refine g_iload (pl := 0) C dX9_guesses_102 rfl ?_
        refine g_if_eq (tgt := 111) C dX9_guesses_104 (by decide) (fun c33 => ?_) (fun c33 => ?_)
        · exact absurd c33 (by decide)
        refine g_iconst (v := (nI 1)) C dX9_guesses_107 rfl ?_
        refine g_goto (tgt := 112) C dX9_guesses_108 (by decide) ?_
        obtain ⟨b34, hs⟩ := vg_ok hs
        obtain ⟨u35, e_u35, hs⟩ := vlet_ex hs
        refine g_iast (ws' := [oX9 h a_post a_read a_now a_aside a_past f_undos a_kept f_keptMany a_sights f_sightMany a_text f_size f_at f_value a_weights a_tried f_above f_below y17 a_row a_who a_order a_bestOrder a_costs a_taken, aI cI a_post 52 f_post, aI cI a_weights 8 z1.2, aI cI a_p1 50 u35]) C 3 rfl (vin_ok b34) (by rw [e_u35]; rfl) dX9_guesses_112 ?_
        refine g_goto (tgt := 152) C dX9_guesses_113 (by decide) ?_
        refine g_iload_n (pl := 2) C dX9_guesses_152 rfl rfl ?_
        cases hs
        exact hR _ _ dX9_guesses_153
  · replace hs := vi_t hs c2
    refine g_aload_n (pl := 2) C dX9_guesses_18 rfl rfl ?_
    refine g_bipush (v := (nI 20)) C dX9_guesses_19 rfl ?_
    refine g_iload_n (pl := 3) C dX9_guesses_21 rfl rfl ?_
    refine g_iadd C dX9_guesses_22 ?_
    refine g_iconst (v := (nI 2)) C dX9_guesses_23 rfl ?_
    obtain ⟨b36, hs⟩ := vg_ok hs
    obtain ⟨u37, e_u37, hs⟩ := vlet_ex hs
    refine g_iast (ws' := [oX9 h a_post a_read a_now a_aside a_past f_undos a_kept f_keptMany a_sights f_sightMany a_text f_size f_at f_value a_weights a_tried f_above f_below (nI 0) a_row a_who a_order a_bestOrder a_costs a_taken, aI cI a_post 52 f_post, aI cI a_weights 8 z1.2, aI cI a_p1 50 u37]) C 3 rfl (vin_ok b36) (by rw [e_u37]; rfl) dX9_guesses_24 ?_
    refine g_goto (tgt := 152) C dX9_guesses_25 (by decide) ?_
    refine g_iload_n (pl := 0) C dX9_guesses_152 rfl rfl ?_
    cases hs
    exact hR _ _ dX9_guesses_153
def sX9_guess (f_post : Nat → Int32) (f_now : Nat → Int32) (f_past : Nat → Int32) (f_undos : Int32) (f_weights : Nat → Int32) (f_paid : Int32) (x1 : Int32) : Option (Int32 × (Nat → Int32) × (Nat → Int32) × Int32 × (Nat → Int32) × Int32) :=
  vb (sX9_isActor f_post x1) fun z1 =>
  vi (z1 = 0) inferInstance (
    some ((-1), f_now, f_past, f_undos, f_weights, f_paid)) (
    vb (sX9_waits f_now x1) fun z3 =>
    vi (z3 = 0) inferInstance (
      some ((-2), f_now, f_past, f_undos, f_weights, f_paid)) (
      vb (sX9_remember f_now f_past f_undos) fun z5 =>
      vb (sX9_guesses f_post f_weights f_paid f_now x1) fun z6 =>
      some (z6.1, z6.2.2.2, z5.1, z5.2, z6.2.1, z6.2.2.1)))
abbrev rmX9_guess : Room := { frames := 7, cells := 0, slots := 0, locals := 170 }
set_option maxHeartbeats 4000000 in
set_option maxRecDepth 100000 in
theorem cX9_guess_ct (l : Launch) (D : va_G) (cI : ClassId) (h : Nat) (a_post : Nat) (a_read : Nat) (a_now : Nat) (a_aside : Nat) (a_past : Nat) (a_kept : Nat) (a_sights : Nat) (a_text : Nat) (a_weights : Nat) (a_tried : Nat) (a_row : Nat) (a_who : Nat) (a_order : Nat) (a_bestOrder : Nat) (a_costs : Nat) (a_taken : Nat) (f_undos : Int32) (f_keptMany : Int32) (f_sightMany : Int32) (f_size : Int32) (f_at : Int32) (f_value : Int32) (f_above : Int64) (f_below : Int64) (f_paid : Int32) (f_post : Nat → Int32) (f_now : Nat → Int32) (f_past : Nat → Int32) (f_weights : Nat → Int32) (x1 : Int32) {z : Int32 × (Nat → Int32) × (Nat → Int32) × Int32 × (Nat → Int32) × Int32} (hs : sX9_guess f_post f_now f_past f_undos f_weights f_paid x1 = some z) : ct l yX9_guess (.code yX9_guess cX9_guess 2 (some .int) :: gtb) rmX9_guess D cI [.ref h, .int x1] [oX9 h a_post a_read a_now a_aside a_past f_undos a_kept f_keptMany a_sights f_sightMany a_text f_size f_at f_value a_weights a_tried f_above f_below f_paid a_row a_who a_order a_bestOrder a_costs a_taken, aI cI a_post 52 f_post, aI cI a_now 50 f_now, aI cI a_past 400 f_past, aI cI a_weights 8 f_weights] (some (.int z.1)) [oX9 h a_post a_read a_now a_aside a_past z.2.2.2.1 a_kept f_keptMany a_sights f_sightMany a_text f_size f_at f_value a_weights a_tried f_above f_below z.2.2.2.2.2 a_row a_who a_order a_bestOrder a_costs a_taken, aI cI a_post 52 f_post, aI cI a_now 50 z.2.1, aI cI a_past 400 z.2.2.1, aI cI a_weights 8 z.2.2.2.2.1] := by
  refine ct_ofI (own := RX9) (by decide +kernel) rfl (Nat.le_of_ble_eq_true rfl) (fun X C hD hR => ?_)
  unfold sX9_guess at hs
  show gg cI X 2 0 0 [oX9 h a_post a_read a_now a_aside a_past f_undos a_kept f_keptMany a_sights f_sightMany a_text f_size f_at f_value a_weights a_tried f_above f_below f_paid a_row a_who a_order a_bestOrder a_costs a_taken, aI cI a_post 52 f_post, aI cI a_now 50 f_now, aI cI a_past 400 f_past, aI cI a_weights 8 f_weights] [(0, .ref h), (1, .int x1)] 0 []
  refine g_aload_n (pl := 0) C dX9_guess_0 rfl rfl ?_
  refine g_iload_n (pl := 1) C dX9_guess_1 rfl rfl ?_
  obtain ⟨z1, e_z1, hs⟩ := vb_ok hs
  refine g_callV (ws' := [oX9 h a_post a_read a_now a_aside a_past f_undos a_kept f_keptMany a_sights f_sightMany a_text f_size f_at f_value a_weights a_tried f_above f_below f_paid a_row a_who a_order a_bestOrder a_costs a_taken, aI cI a_post 52 f_post, aI cI a_now 50 f_now, aI cI a_past 400 f_past, aI cI a_weights 8 f_weights]) (rest := []) (st' := [.int z1]) C mX9_165 q5_61 [.int x1] (fun l D => cX9_isActor_ct l D cI h a_post a_read a_now a_aside a_past a_kept a_sights a_text a_weights a_tried a_row a_who a_order a_bestOrder a_costs a_taken f_undos f_keptMany f_sightMany f_size f_at f_value f_above f_below f_paid f_post x1 e_z1) ⟨⟨rfl, rfl⟩, Nat.le_of_ble_eq_true rfl, Nat.le_of_ble_eq_true rfl⟩ 0 rfl rfl rfl [0, 1] rfl rfl rfl rfl rfl (Nat.le_of_ble_eq_true rfl) (Nat.zero_le _) (Nat.zero_le _) rfl dX9_guess_2 ?_
  refine g_if_ne (tgt := 10) C dX9_guess_5 (by decide) (fun c2 => ?_) (fun c2 => ?_)
  · replace hs := vi_f hs c2
    refine g_aload_n (pl := 0) C dX9_guess_10 rfl rfl ?_
    refine g_iload_n (pl := 1) C dX9_guess_11 rfl rfl ?_
    obtain ⟨z3, e_z3, hs⟩ := vb_ok hs
    refine g_callV (ws' := [oX9 h a_post a_read a_now a_aside a_past f_undos a_kept f_keptMany a_sights f_sightMany a_text f_size f_at f_value a_weights a_tried f_above f_below f_paid a_row a_who a_order a_bestOrder a_costs a_taken, aI cI a_post 52 f_post, aI cI a_now 50 f_now, aI cI a_past 400 f_past, aI cI a_weights 8 f_weights]) (rest := []) (st' := [.int z3]) C mX9_206 q5_109 [.int x1] (fun l D => cX9_waits_ct l D cI h a_post a_read a_now a_aside a_past a_kept a_sights a_text a_weights a_tried a_row a_who a_order a_bestOrder a_costs a_taken f_undos f_keptMany f_sightMany f_size f_at f_value f_above f_below f_paid f_now x1 e_z3) ⟨⟨rfl, rfl⟩, Nat.le_of_ble_eq_true rfl, Nat.le_of_ble_eq_true rfl⟩ 0 rfl rfl rfl [0, 2] rfl rfl rfl rfl rfl (Nat.le_of_ble_eq_true rfl) (Nat.zero_le _) (Nat.zero_le _) rfl dX9_guess_12 ?_
    refine g_if_ne (tgt := 21) C dX9_guess_15 (by decide) (fun c4 => ?_) (fun c4 => ?_)
    · replace hs := vi_f hs c4
      refine g_aload_n (pl := 0) C dX9_guess_21 rfl rfl ?_
      obtain ⟨z5, e_z5, hs⟩ := vb_ok hs
      refine g_callV (ws' := [oX9 h a_post a_read a_now a_aside a_past z5.2 a_kept f_keptMany a_sights f_sightMany a_text f_size f_at f_value a_weights a_tried f_above f_below f_paid a_row a_who a_order a_bestOrder a_costs a_taken, aI cI a_post 52 f_post, aI cI a_now 50 f_now, aI cI a_past 400 z5.1, aI cI a_weights 8 f_weights]) (rest := []) (st' := []) C mX9_217 q5_128 [] (fun l D => cX9_remember_ct l D cI h a_post a_read a_now a_aside a_past a_kept a_sights a_text a_weights a_tried a_row a_who a_order a_bestOrder a_costs a_taken f_undos f_keptMany f_sightMany f_size f_at f_value f_above f_below f_paid f_now f_past e_z5) ⟨⟨rfl, rfl⟩, Nat.le_of_ble_eq_true rfl, Nat.le_of_ble_eq_true rfl⟩ 0 rfl rfl rfl [0, 2, 3] rfl rfl rfl rfl rfl (Nat.le_of_ble_eq_true rfl) (Nat.zero_le _) (Nat.zero_le _) rfl dX9_guess_22 ?_
      refine g_aload_n (pl := 0) C dX9_guess_25 rfl rfl ?_
      refine g_aload_n (pl := 0) C dX9_guess_26 rfl rfl ?_
      refine g_get C fX9_16 0 rfl rfl dX9_guess_27 ?_
      refine g_iload_n (pl := 1) C dX9_guess_30 rfl rfl ?_
      obtain ⟨z6, e_z6, hs⟩ := vb_ok hs
      refine g_callV (ws' := [oX9 h a_post a_read a_now a_aside a_past z5.2 a_kept f_keptMany a_sights f_sightMany a_text f_size f_at f_value a_weights a_tried f_above f_below z6.2.2.1 a_row a_who a_order a_bestOrder a_costs a_taken, aI cI a_post 52 f_post, aI cI a_now 50 z6.2.2.2, aI cI a_past 400 z5.1, aI cI a_weights 8 z6.2.1]) (rest := []) (st' := [.int z6.1]) C mX9_230 q5_140 [.ref a_now, .int x1] (fun l D => cX9_guesses_ct l D cI h a_post a_read a_now a_aside a_past a_kept a_sights a_text a_weights a_tried a_row a_who a_order a_bestOrder a_costs a_taken a_now z5.2 f_keptMany f_sightMany f_size f_at f_value f_above f_below f_paid f_post f_weights f_now x1 e_z6) ⟨⟨rfl, rfl⟩, Nat.le_of_ble_eq_true rfl, Nat.le_of_ble_eq_true rfl⟩ 0 rfl rfl rfl [0, 1, 4, 2] rfl rfl rfl rfl rfl (Nat.le_of_ble_eq_true rfl) (Nat.zero_le _) (Nat.zero_le _) rfl dX9_guess_31 ?_
      cases hs
      exact hR _ _ dX9_guess_34
    · replace hs := vi_t hs c4
      refine g_bipush (v := (-2)) C dX9_guess_18 rfl ?_
      cases hs
      exact hR _ _ dX9_guess_20
  · replace hs := vi_t hs c2
    refine g_iconst (v := (-1)) C dX9_guess_8 rfl ?_
    cases hs
    exact hR _ _ dX9_guess_9
def sX9_isFresh (f_now : Nat → Int32) (x1 : Int32) : Option (Int32) :=
  vb (sX9_waits f_now x1) fun z1 =>
  vi (z1 = 0) inferInstance (
    some ((nI 0))) (
    vg (vin ((nI 10) + x1) 50) (
    vi ((f_now (Int32.toNatClampNeg ((nI 10) + x1))) = 0) inferInstance (
      some ((nI 1))) (
      some ((nI 0)))))
abbrev rmX9_isFresh : Room := { frames := 1, cells := 0, slots := 0, locals := 21 }
set_option maxHeartbeats 4000000 in
set_option maxRecDepth 100000 in
theorem cX9_isFresh_ct (l : Launch) (D : va_G) (cI : ClassId) (h : Nat) (a_post : Nat) (a_read : Nat) (a_now : Nat) (a_aside : Nat) (a_past : Nat) (a_kept : Nat) (a_sights : Nat) (a_text : Nat) (a_weights : Nat) (a_tried : Nat) (a_row : Nat) (a_who : Nat) (a_order : Nat) (a_bestOrder : Nat) (a_costs : Nat) (a_taken : Nat) (f_undos : Int32) (f_keptMany : Int32) (f_sightMany : Int32) (f_size : Int32) (f_at : Int32) (f_value : Int32) (f_above : Int64) (f_below : Int64) (f_paid : Int32) (f_now : Nat → Int32) (x1 : Int32) {z : Int32} (hs : sX9_isFresh f_now x1 = some z) : ct l yX9_isFresh (.code yX9_isFresh cX9_isFresh 2 (some .boolean) :: gtb) rmX9_isFresh D cI [.ref h, .int x1] [oX9 h a_post a_read a_now a_aside a_past f_undos a_kept f_keptMany a_sights f_sightMany a_text f_size f_at f_value a_weights a_tried f_above f_below f_paid a_row a_who a_order a_bestOrder a_costs a_taken, aI cI a_now 50 f_now] (some (.int z)) [oX9 h a_post a_read a_now a_aside a_past f_undos a_kept f_keptMany a_sights f_sightMany a_text f_size f_at f_value a_weights a_tried f_above f_below f_paid a_row a_who a_order a_bestOrder a_costs a_taken, aI cI a_now 50 f_now] := by
  refine ct_ofZ (own := RX9) (by decide +kernel) rfl (Nat.le_of_ble_eq_true rfl) (fun X C hD hR => ?_)
  unfold sX9_isFresh at hs
  show gg cI X 2 0 0 [oX9 h a_post a_read a_now a_aside a_past f_undos a_kept f_keptMany a_sights f_sightMany a_text f_size f_at f_value a_weights a_tried f_above f_below f_paid a_row a_who a_order a_bestOrder a_costs a_taken, aI cI a_now 50 f_now] [(0, .ref h), (1, .int x1)] 0 []
  refine g_aload_n (pl := 0) C dX9_isFresh_0 rfl rfl ?_
  refine g_iload_n (pl := 1) C dX9_isFresh_1 rfl rfl ?_
  obtain ⟨z1, e_z1, hs⟩ := vb_ok hs
  refine g_callV (ws' := [oX9 h a_post a_read a_now a_aside a_past f_undos a_kept f_keptMany a_sights f_sightMany a_text f_size f_at f_value a_weights a_tried f_above f_below f_paid a_row a_who a_order a_bestOrder a_costs a_taken, aI cI a_now 50 f_now]) (rest := []) (st' := [.int z1]) C mX9_206 q5_109 [.int x1] (fun l D => cX9_waits_ct l D cI h a_post a_read a_now a_aside a_past a_kept a_sights a_text a_weights a_tried a_row a_who a_order a_bestOrder a_costs a_taken f_undos f_keptMany f_sightMany f_size f_at f_value f_above f_below f_paid f_now x1 e_z1) ⟨⟨rfl, rfl⟩, Nat.le_of_ble_eq_true rfl, Nat.le_of_ble_eq_true rfl⟩ 0 rfl rfl rfl [0, 1] rfl rfl rfl rfl rfl (Nat.le_of_ble_eq_true rfl) (Nat.zero_le _) (Nat.zero_le _) rfl dX9_isFresh_2 ?_
  refine g_if_eq (tgt := 24) C dX9_isFresh_5 (by decide) (fun c2 => ?_) (fun c2 => ?_)
  · replace hs := vi_t hs c2
    refine g_iconst (v := (nI 0)) C dX9_isFresh_24 rfl ?_
    cases hs
    exact hR _ _ (Or.inl rfl) dX9_isFresh_25
  · replace hs := vi_f hs c2
    refine g_aload_n (pl := 0) C dX9_isFresh_8 rfl rfl ?_
    refine g_get C fX9_16 0 rfl rfl dX9_isFresh_9 ?_
    refine g_bipush (v := (nI 10)) C dX9_isFresh_12 rfl ?_
    refine g_iload_n (pl := 1) C dX9_isFresh_14 rfl rfl ?_
    refine g_iadd C dX9_isFresh_15 ?_
    obtain ⟨b3, hs⟩ := vg_ok hs
    refine g_iald C 1 rfl (vin_ok b3) dX9_isFresh_16 ?_
    refine g_if_ne (tgt := 24) C dX9_isFresh_17 (by decide) (fun c4 => ?_) (fun c4 => ?_)
    · replace hs := vi_f hs c4
      refine g_iconst (v := (nI 0)) C dX9_isFresh_24 rfl ?_
      cases hs
      exact hR _ _ (Or.inl rfl) dX9_isFresh_25
    · replace hs := vi_t hs c4
      refine g_iconst (v := (nI 1)) C dX9_isFresh_20 rfl ?_
      refine g_goto (tgt := 25) C dX9_isFresh_21 (by decide) ?_
      cases hs
      exact hR _ _ (Or.inr rfl) dX9_isFresh_25
def sX9_change (f_post : Nat → Int32) (f_now : Nat → Int32) (f_past : Nat → Int32) (f_undos : Int32) (x1 : Int32) (x2 : Int32) : Option (Int32 × (Nat → Int32) × (Nat → Int32) × Int32) :=
  vb (sX9_isActor f_post x1) fun z1 =>
  vi (z1 = 0) inferInstance (
    some ((-1), f_now, f_past, f_undos)) (
    vb (sX9_isActor f_post x2) fun z3 =>
    vi (z3 = 0) inferInstance (
      some ((-1), f_now, f_past, f_undos)) (
      vi (x1 = x2) inferInstance (
        some ((-1), f_now, f_past, f_undos)) (
        vb (sX9_isFresh f_now x1) fun z6 =>
        vi (z6 = 0) inferInstance (
          some ((-2), f_now, f_past, f_undos)) (
          vb (sX9_isFresh f_now x2) fun z8 =>
          vi (z8 = 0) inferInstance (
            some ((-2), f_now, f_past, f_undos)) (
            vb (sX9_remember f_now f_past f_undos) fun z10 =>
            vg (vin ((nI 0) + x1) 50) (
            vlet (f_now (Int32.toNatClampNeg ((nI 0) + x1))) fun y12 =>
            vg (vin ((nI 0) + x2) 50) (
            vlet (f_now (Int32.toNatClampNeg ((nI 0) + x2))) fun y14 =>
            vg (vin ((nI 0) + x1) 50) (
            vlet (upd f_now (Int32.toNatClampNeg ((nI 0) + x1)) y14) fun u16 =>
            vg (vin ((nI 0) + x2) 50) (
            vlet (upd u16 (Int32.toNatClampNeg ((nI 0) + x2)) y12) fun u18 =>
            vg (vin ((nI 0) + x1) 50) (
            some (u18 (Int32.toNatClampNeg ((nI 0) + x1)), u18, z10.1, z10.2)))))))))))
abbrev rmX9_change : Room := { frames := 2, cells := 0, slots := 0, locals := 46 }
set_option maxHeartbeats 4000000 in
set_option maxRecDepth 100000 in
theorem cX9_change_ct (l : Launch) (D : va_G) (cI : ClassId) (h : Nat) (a_post : Nat) (a_read : Nat) (a_now : Nat) (a_aside : Nat) (a_past : Nat) (a_kept : Nat) (a_sights : Nat) (a_text : Nat) (a_weights : Nat) (a_tried : Nat) (a_row : Nat) (a_who : Nat) (a_order : Nat) (a_bestOrder : Nat) (a_costs : Nat) (a_taken : Nat) (f_undos : Int32) (f_keptMany : Int32) (f_sightMany : Int32) (f_size : Int32) (f_at : Int32) (f_value : Int32) (f_above : Int64) (f_below : Int64) (f_paid : Int32) (f_post : Nat → Int32) (f_now : Nat → Int32) (f_past : Nat → Int32) (x1 : Int32) (x2 : Int32) {z : Int32 × (Nat → Int32) × (Nat → Int32) × Int32} (hs : sX9_change f_post f_now f_past f_undos x1 x2 = some z) : ct l yX9_change (.code yX9_change cX9_change 4 (some .int) :: gtb) rmX9_change D cI [.ref h, .int x1, .int x2] [oX9 h a_post a_read a_now a_aside a_past f_undos a_kept f_keptMany a_sights f_sightMany a_text f_size f_at f_value a_weights a_tried f_above f_below f_paid a_row a_who a_order a_bestOrder a_costs a_taken, aI cI a_post 52 f_post, aI cI a_now 50 f_now, aI cI a_past 400 f_past] (some (.int z.1)) [oX9 h a_post a_read a_now a_aside a_past z.2.2.2 a_kept f_keptMany a_sights f_sightMany a_text f_size f_at f_value a_weights a_tried f_above f_below f_paid a_row a_who a_order a_bestOrder a_costs a_taken, aI cI a_post 52 f_post, aI cI a_now 50 z.2.1, aI cI a_past 400 z.2.2.1] := by
  refine ct_ofI (own := RX9) (by decide +kernel) rfl (Nat.le_of_ble_eq_true rfl) (fun X C hD hR => ?_)
  unfold sX9_change at hs
  show gg cI X 4 0 0 [oX9 h a_post a_read a_now a_aside a_past f_undos a_kept f_keptMany a_sights f_sightMany a_text f_size f_at f_value a_weights a_tried f_above f_below f_paid a_row a_who a_order a_bestOrder a_costs a_taken, aI cI a_post 52 f_post, aI cI a_now 50 f_now, aI cI a_past 400 f_past] [(0, .ref h), (1, .int x1), (2, .int x2)] 0 []
  refine g_aload_n (pl := 0) C dX9_change_0 rfl rfl ?_
  refine g_iload_n (pl := 1) C dX9_change_1 rfl rfl ?_
  obtain ⟨z1, e_z1, hs⟩ := vb_ok hs
  refine g_callV (ws' := [oX9 h a_post a_read a_now a_aside a_past f_undos a_kept f_keptMany a_sights f_sightMany a_text f_size f_at f_value a_weights a_tried f_above f_below f_paid a_row a_who a_order a_bestOrder a_costs a_taken, aI cI a_post 52 f_post, aI cI a_now 50 f_now, aI cI a_past 400 f_past]) (rest := []) (st' := [.int z1]) C mX9_165 q5_61 [.int x1] (fun l D => cX9_isActor_ct l D cI h a_post a_read a_now a_aside a_past a_kept a_sights a_text a_weights a_tried a_row a_who a_order a_bestOrder a_costs a_taken f_undos f_keptMany f_sightMany f_size f_at f_value f_above f_below f_paid f_post x1 e_z1) ⟨⟨rfl, rfl⟩, Nat.le_of_ble_eq_true rfl, Nat.le_of_ble_eq_true rfl⟩ 0 rfl rfl rfl [0, 1] rfl rfl rfl rfl rfl (Nat.le_of_ble_eq_true rfl) (Nat.zero_le _) (Nat.zero_le _) rfl dX9_change_2 ?_
  refine g_if_eq (tgt := 21) C dX9_change_5 (by decide) (fun c2 => ?_) (fun c2 => ?_)
  · replace hs := vi_t hs c2
    refine g_iconst (v := (-1)) C dX9_change_21 rfl ?_
    cases hs
    exact hR _ _ dX9_change_22
  · replace hs := vi_f hs c2
    refine g_aload_n (pl := 0) C dX9_change_8 rfl rfl ?_
    refine g_iload_n (pl := 2) C dX9_change_9 rfl rfl ?_
    obtain ⟨z3, e_z3, hs⟩ := vb_ok hs
    refine g_callV (ws' := [oX9 h a_post a_read a_now a_aside a_past f_undos a_kept f_keptMany a_sights f_sightMany a_text f_size f_at f_value a_weights a_tried f_above f_below f_paid a_row a_who a_order a_bestOrder a_costs a_taken, aI cI a_post 52 f_post, aI cI a_now 50 f_now, aI cI a_past 400 f_past]) (rest := []) (st' := [.int z3]) C mX9_165 q5_61 [.int x2] (fun l D => cX9_isActor_ct l D cI h a_post a_read a_now a_aside a_past a_kept a_sights a_text a_weights a_tried a_row a_who a_order a_bestOrder a_costs a_taken f_undos f_keptMany f_sightMany f_size f_at f_value f_above f_below f_paid f_post x2 e_z3) ⟨⟨rfl, rfl⟩, Nat.le_of_ble_eq_true rfl, Nat.le_of_ble_eq_true rfl⟩ 0 rfl rfl rfl [0, 1] rfl rfl rfl rfl rfl (Nat.le_of_ble_eq_true rfl) (Nat.zero_le _) (Nat.zero_le _) rfl dX9_change_10 ?_
    refine g_if_eq (tgt := 21) C dX9_change_13 (by decide) (fun c4 => ?_) (fun c4 => ?_)
    · replace hs := vi_t hs c4
      refine g_iconst (v := (-1)) C dX9_change_21 rfl ?_
      cases hs
      exact hR _ _ dX9_change_22
    · replace hs := vi_f hs c4
      refine g_iload_n (pl := 1) C dX9_change_16 rfl rfl ?_
      refine g_iload_n (pl := 2) C dX9_change_17 rfl rfl ?_
      refine g_icmp_ne (tgt := 23) C dX9_change_18 (by decide) (fun c5 => ?_) (fun c5 => ?_)
      · replace hs := vi_f hs c5
        refine g_aload_n (pl := 0) C dX9_change_23 rfl rfl ?_
        refine g_iload_n (pl := 1) C dX9_change_24 rfl rfl ?_
        obtain ⟨z6, e_z6, hs⟩ := vb_ok hs
        refine g_callV (ws' := [oX9 h a_post a_read a_now a_aside a_past f_undos a_kept f_keptMany a_sights f_sightMany a_text f_size f_at f_value a_weights a_tried f_above f_below f_paid a_row a_who a_order a_bestOrder a_costs a_taken, aI cI a_post 52 f_post, aI cI a_now 50 f_now, aI cI a_past 400 f_past]) (rest := []) (st' := [.int z6]) C mX9_233 q5_151 [.int x1] (fun l D => cX9_isFresh_ct l D cI h a_post a_read a_now a_aside a_past a_kept a_sights a_text a_weights a_tried a_row a_who a_order a_bestOrder a_costs a_taken f_undos f_keptMany f_sightMany f_size f_at f_value f_above f_below f_paid f_now x1 e_z6) ⟨⟨rfl, rfl⟩, Nat.le_of_ble_eq_true rfl, Nat.le_of_ble_eq_true rfl⟩ 0 rfl rfl rfl [0, 2] rfl rfl rfl rfl rfl (Nat.le_of_ble_eq_true rfl) (Nat.zero_le _) (Nat.zero_le _) rfl dX9_change_25 ?_
        refine g_if_eq (tgt := 39) C dX9_change_28 (by decide) (fun c7 => ?_) (fun c7 => ?_)
        · replace hs := vi_t hs c7
          refine g_bipush (v := (-2)) C dX9_change_39 rfl ?_
          cases hs
          exact hR _ _ dX9_change_41
        · replace hs := vi_f hs c7
          refine g_aload_n (pl := 0) C dX9_change_31 rfl rfl ?_
          refine g_iload_n (pl := 2) C dX9_change_32 rfl rfl ?_
          obtain ⟨z8, e_z8, hs⟩ := vb_ok hs
          refine g_callV (ws' := [oX9 h a_post a_read a_now a_aside a_past f_undos a_kept f_keptMany a_sights f_sightMany a_text f_size f_at f_value a_weights a_tried f_above f_below f_paid a_row a_who a_order a_bestOrder a_costs a_taken, aI cI a_post 52 f_post, aI cI a_now 50 f_now, aI cI a_past 400 f_past]) (rest := []) (st' := [.int z8]) C mX9_233 q5_151 [.int x2] (fun l D => cX9_isFresh_ct l D cI h a_post a_read a_now a_aside a_past a_kept a_sights a_text a_weights a_tried a_row a_who a_order a_bestOrder a_costs a_taken f_undos f_keptMany f_sightMany f_size f_at f_value f_above f_below f_paid f_now x2 e_z8) ⟨⟨rfl, rfl⟩, Nat.le_of_ble_eq_true rfl, Nat.le_of_ble_eq_true rfl⟩ 0 rfl rfl rfl [0, 2] rfl rfl rfl rfl rfl (Nat.le_of_ble_eq_true rfl) (Nat.zero_le _) (Nat.zero_le _) rfl dX9_change_33 ?_
          refine g_if_ne (tgt := 42) C dX9_change_36 (by decide) (fun c9 => ?_) (fun c9 => ?_)
          · replace hs := vi_f hs c9
            refine g_aload_n (pl := 0) C dX9_change_42 rfl rfl ?_
            obtain ⟨z10, e_z10, hs⟩ := vb_ok hs
            refine g_callV (ws' := [oX9 h a_post a_read a_now a_aside a_past z10.2 a_kept f_keptMany a_sights f_sightMany a_text f_size f_at f_value a_weights a_tried f_above f_below f_paid a_row a_who a_order a_bestOrder a_costs a_taken, aI cI a_post 52 f_post, aI cI a_now 50 f_now, aI cI a_past 400 z10.1]) (rest := []) (st' := []) C mX9_217 q5_128 [] (fun l D => cX9_remember_ct l D cI h a_post a_read a_now a_aside a_past a_kept a_sights a_text a_weights a_tried a_row a_who a_order a_bestOrder a_costs a_taken f_undos f_keptMany f_sightMany f_size f_at f_value f_above f_below f_paid f_now f_past e_z10) ⟨⟨rfl, rfl⟩, Nat.le_of_ble_eq_true rfl, Nat.le_of_ble_eq_true rfl⟩ 0 rfl rfl rfl [0, 2, 3] rfl rfl rfl rfl rfl (Nat.le_of_ble_eq_true rfl) (Nat.zero_le _) (Nat.zero_le _) rfl dX9_change_43 ?_
            refine g_aload_n (pl := 0) C dX9_change_46 rfl rfl ?_
            refine g_get C fX9_16 0 rfl rfl dX9_change_47 ?_
            refine g_iconst (v := (nI 0)) C dX9_change_50 rfl ?_
            refine g_iload_n (pl := 1) C dX9_change_51 rfl rfl ?_
            refine g_iadd C dX9_change_52 ?_
            obtain ⟨b11, hs⟩ := vg_ok hs
            refine g_iald C 2 rfl (vin_ok b11) dX9_change_53 ?_
            obtain ⟨y12, e_y12, hs⟩ := vlet_ex hs
            refine g_topi e_y12 ?_
            refine g_istore_n (lv' := [(3, .int y12), (0, .ref h), (1, .int x1), (2, .int x2)]) C dX9_change_54 rfl (by decide) rfl ?_
            refine g_aload_n (pl := 1) C dX9_change_55 rfl rfl ?_
            refine g_get C fX9_16 0 rfl rfl dX9_change_56 ?_
            refine g_iconst (v := (nI 0)) C dX9_change_59 rfl ?_
            refine g_iload_n (pl := 2) C dX9_change_60 rfl rfl ?_
            refine g_iadd C dX9_change_61 ?_
            refine g_aload_n (pl := 1) C dX9_change_62 rfl rfl ?_
            refine g_get C fX9_16 0 rfl rfl dX9_change_63 ?_
            refine g_iconst (v := (nI 0)) C dX9_change_66 rfl ?_
            refine g_iload_n (pl := 3) C dX9_change_67 rfl rfl ?_
            refine g_iadd C dX9_change_68 ?_
            obtain ⟨b13, hs⟩ := vg_ok hs
            refine g_iald C 2 rfl (vin_ok b13) dX9_change_69 ?_
            obtain ⟨y14, e_y14, hs⟩ := vlet_ex hs
            refine g_topi e_y14 ?_
            obtain ⟨b15, hs⟩ := vg_ok hs
            obtain ⟨u16, e_u16, hs⟩ := vlet_ex hs
            refine g_iast (ws' := [oX9 h a_post a_read a_now a_aside a_past z10.2 a_kept f_keptMany a_sights f_sightMany a_text f_size f_at f_value a_weights a_tried f_above f_below f_paid a_row a_who a_order a_bestOrder a_costs a_taken, aI cI a_post 52 f_post, aI cI a_now 50 u16, aI cI a_past 400 z10.1]) C 2 rfl (vin_ok b15) (by rw [e_u16]; rfl) dX9_change_70 ?_
            refine g_aload_n (pl := 1) C dX9_change_71 rfl rfl ?_
            refine g_get C fX9_16 0 rfl rfl dX9_change_72 ?_
            refine g_iconst (v := (nI 0)) C dX9_change_75 rfl ?_
            refine g_iload_n (pl := 3) C dX9_change_76 rfl rfl ?_
            refine g_iadd C dX9_change_77 ?_
            refine g_iload_n (pl := 0) C dX9_change_78 rfl rfl ?_
            obtain ⟨b17, hs⟩ := vg_ok hs
            obtain ⟨u18, e_u18, hs⟩ := vlet_ex hs
            refine g_iast (ws' := [oX9 h a_post a_read a_now a_aside a_past z10.2 a_kept f_keptMany a_sights f_sightMany a_text f_size f_at f_value a_weights a_tried f_above f_below f_paid a_row a_who a_order a_bestOrder a_costs a_taken, aI cI a_post 52 f_post, aI cI a_now 50 u18, aI cI a_past 400 z10.1]) C 2 rfl (vin_ok b17) (by rw [e_u18]; rfl) dX9_change_79 ?_
            refine g_aload_n (pl := 1) C dX9_change_80 rfl rfl ?_
            refine g_get C fX9_16 0 rfl rfl dX9_change_81 ?_
            refine g_iconst (v := (nI 0)) C dX9_change_84 rfl ?_
            refine g_iload_n (pl := 2) C dX9_change_85 rfl rfl ?_
            refine g_iadd C dX9_change_86 ?_
            obtain ⟨b19, hs⟩ := vg_ok hs
            refine g_iald C 2 rfl (vin_ok b19) dX9_change_87 ?_
            cases hs
            exact hR _ _ dX9_change_88
          · replace hs := vi_t hs c9
            refine g_bipush (v := (-2)) C dX9_change_39 rfl ?_
            cases hs
            exact hR _ _ dX9_change_41
      · replace hs := vi_t hs c5
        refine g_iconst (v := (-1)) C dX9_change_21 rfl ?_
        cases hs
        exact hR _ _ dX9_change_22
def sX9_undo (f_now : Nat → Int32) (f_past : Nat → Int32) (f_undos : Int32) : Option (Int32 × (Nat → Int32) × Int32) :=
  vi (f_undos = 0) inferInstance (
    some ((-2), f_now, f_undos)) (
    vlet (f_undos - (nI 1)) fun y2 =>
    vb (sX9_copies 400 50 f_past f_now ((nI 50) * y2) (nI 0) (nI 50)) fun z3 =>
    some (y2, z3, y2))
abbrev rmX9_undo : Room := { frames := 1, cells := 0, slots := 0, locals := 25 }
set_option maxHeartbeats 4000000 in
set_option maxRecDepth 100000 in
theorem cX9_undo_ct (l : Launch) (D : va_G) (cI : ClassId) (h : Nat) (a_post : Nat) (a_read : Nat) (a_now : Nat) (a_aside : Nat) (a_past : Nat) (a_kept : Nat) (a_sights : Nat) (a_text : Nat) (a_weights : Nat) (a_tried : Nat) (a_row : Nat) (a_who : Nat) (a_order : Nat) (a_bestOrder : Nat) (a_costs : Nat) (a_taken : Nat) (f_undos : Int32) (f_keptMany : Int32) (f_sightMany : Int32) (f_size : Int32) (f_at : Int32) (f_value : Int32) (f_above : Int64) (f_below : Int64) (f_paid : Int32) (f_now : Nat → Int32) (f_past : Nat → Int32) {z : Int32 × (Nat → Int32) × Int32} (hs : sX9_undo f_now f_past f_undos = some z) : ct l yX9_undo (.code yX9_undo cX9_undo 1 (some .int) :: gtb) rmX9_undo D cI [.ref h] [oX9 h a_post a_read a_now a_aside a_past f_undos a_kept f_keptMany a_sights f_sightMany a_text f_size f_at f_value a_weights a_tried f_above f_below f_paid a_row a_who a_order a_bestOrder a_costs a_taken, aI cI a_now 50 f_now, aI cI a_past 400 f_past] (some (.int z.1)) [oX9 h a_post a_read a_now a_aside a_past z.2.2 a_kept f_keptMany a_sights f_sightMany a_text f_size f_at f_value a_weights a_tried f_above f_below f_paid a_row a_who a_order a_bestOrder a_costs a_taken, aI cI a_now 50 z.2.1, aI cI a_past 400 f_past] := by
  refine ct_ofI (own := RX9) (by decide +kernel) rfl (Nat.le_of_ble_eq_true rfl) (fun X C hD hR => ?_)
  unfold sX9_undo at hs
  show gg cI X 1 0 0 [oX9 h a_post a_read a_now a_aside a_past f_undos a_kept f_keptMany a_sights f_sightMany a_text f_size f_at f_value a_weights a_tried f_above f_below f_paid a_row a_who a_order a_bestOrder a_costs a_taken, aI cI a_now 50 f_now, aI cI a_past 400 f_past] [(0, .ref h)] 0 []
  refine g_aload_n (pl := 0) C dX9_undo_0 rfl rfl ?_
  refine g_get C fX9_68 0 rfl rfl dX9_undo_1 ?_
  refine g_if_ne (tgt := 10) C dX9_undo_4 (by decide) (fun c1 => ?_) (fun c1 => ?_)
  · replace hs := vi_f hs c1
    refine g_aload_n (pl := 0) C dX9_undo_10 rfl rfl ?_
    refine g_dup C dX9_undo_11 rfl ?_
    refine g_get C fX9_68 0 rfl rfl dX9_undo_12 ?_
    refine g_iconst (v := (nI 1)) C dX9_undo_15 rfl ?_
    refine g_isub C dX9_undo_16 ?_
    obtain ⟨y2, e_y2, hs⟩ := vlet_ex hs
    refine g_topi e_y2 ?_
    refine g_putI (ws' := [oX9 h a_post a_read a_now a_aside a_past y2 a_kept f_keptMany a_sights f_sightMany a_text f_size f_at f_value a_weights a_tried f_above f_below f_paid a_row a_who a_order a_bestOrder a_costs a_taken, aI cI a_now 50 f_now, aI cI a_past 400 f_past]) C fX9_68 0 rfl (Nat.le_of_ble_eq_true rfl) rfl dX9_undo_17 ?_
    refine g_aload_n (pl := 0) C dX9_undo_20 rfl rfl ?_
    refine g_get C fX9_22 0 rfl rfl dX9_undo_21 ?_
    refine g_bipush (v := (nI 50)) C dX9_undo_24 rfl ?_
    refine g_aload_n (pl := 0) C dX9_undo_26 rfl rfl ?_
    refine g_get C fX9_68 0 rfl rfl dX9_undo_27 ?_
    refine g_imul C dX9_undo_30 ?_
    refine g_aload_n (pl := 0) C dX9_undo_31 rfl rfl ?_
    refine g_get C fX9_16 0 rfl rfl dX9_undo_32 ?_
    refine g_iconst (v := (nI 0)) C dX9_undo_35 rfl ?_
    refine g_bipush (v := (nI 50)) C dX9_undo_36 rfl ?_
    obtain ⟨z3, e_z3, hs⟩ := vb_ok hs
    refine g_callS (ws' := [oX9 h a_post a_read a_now a_aside a_past y2 a_kept f_keptMany a_sights f_sightMany a_text f_size f_at f_value a_weights a_tried f_above f_below f_paid a_row a_who a_order a_bestOrder a_costs a_taken, aI cI a_now 50 z3, aI cI a_past 400 f_past]) (rest := []) (st' := []) C mX9_148 q5_29 [.ref a_past, .int ((nI 50) * y2), .ref a_now, .int (nI 0), .int (nI 50)] (fun l D => cX9_copies_ct l D cI a_past a_now 400 50 f_past f_now ((nI 50) * y2) (nI 0) (nI 50) e_z3) ⟨⟨rfl, rfl⟩, Nat.le_of_ble_eq_true rfl, Nat.le_of_ble_eq_true rfl⟩ rfl [2, 1] rfl rfl rfl rfl rfl (Nat.le_of_ble_eq_true rfl) (Nat.zero_le _) (Nat.zero_le _) rfl dX9_undo_38 ?_
    refine g_aload_n (pl := 0) C dX9_undo_41 rfl rfl ?_
    refine g_get C fX9_68 0 rfl rfl dX9_undo_42 ?_
    cases hs
    exact hR _ _ dX9_undo_45
  · replace hs := vi_t hs c1
    refine g_bipush (v := (-2)) C dX9_undo_7 rfl ?_
    cases hs
    exact hR _ _ dX9_undo_9
def LX9_wouldBe_26 (y_1 : Int32) (y_3 : Int32) (y_4 : Int32) (f_post : Nat → Int32) (f_row : Nat → Int32) (K69 : Int32 → Option (Int32 × (Nat → Int32))) : Nat → Int32 → Int32 → Option (Int32 × (Nat → Int32))
  | 0, _, _ => none
  | n + 1, y_5, y_6 =>
    vi (y_3 ≤ y_6) inferInstance (
      K69 y_5) (
      vg (vin y_6 3) (
      vb (sX9_times f_post y_1 y_4 (f_row (Int32.toNatClampNeg y_6)) (f_post (Int32.toNatClampNeg (nI 4))) (f_post (Int32.toNatClampNeg (nI 5)))) fun z3 =>
      vlet (y_5 * z3) fun y4 =>
      vlet (y_6 + (nI 1)) fun y5 =>
      LX9_wouldBe_26 y_1 y_3 y_4 f_post f_row K69 n y4 y5))
def LX9_wouldBe_3 (y_1 : Int32) (y_2 : Int32) (y_3 : Int32) (f_post : Nat → Int32) (f_weights : Nat → Int32) (f_row : Nat → Int32) : Nat → Int32 → (Nat → Int32) → Option (Int32 × (Nat → Int32))
  | 0, _, _ => none
  | n + 1, y_4, f_tried =>
    vi ((f_post (Int32.toNatClampNeg (nI 0))) ≤ y_4) inferInstance (
      vb (sX9_greatest f_post f_tried) fun z7 =>
      vi (z7 = y_2) inferInstance (
        some ((nI 1), f_tried)) (
        some ((nI 0), f_tried))) (
      vg (vin y_4 8) (
      vlet (f_weights (Int32.toNatClampNeg y_4)) fun y10 =>
      LX9_wouldBe_26 y_1 y_3 y_4 f_post f_row (fun (v11 : Int32) =>
          vg (vin y_4 8) (
          vlet (upd f_tried (Int32.toNatClampNeg y_4) v11) fun u13 =>
          vlet (y_4 + (nI 1)) fun y14 =>
          LX9_wouldBe_3 y_1 y_2 y_3 f_post f_weights f_row n y14 u13)) vF y10 (nI 0)))
def sX9_wouldBe (f_post : Nat → Int32) (f_weights : Nat → Int32) (f_tried : Nat → Int32) (f_row : Nat → Int32) (x1 : Int32) (x2 : Int32) (x3 : Int32) : Option (Int32 × (Nat → Int32)) :=
  LX9_wouldBe_3 x1 x2 x3 f_post f_weights f_row vF (nI 0) f_tried
abbrev rmX9_wouldBe : Room := { frames := 3, cells := 0, slots := 0, locals := 71 }
set_option maxHeartbeats 4000000 in
set_option maxRecDepth 100000 in
theorem LX9_wouldBe_26_w {cI : ClassId} {X : xT} (C : cx cI X 7 cX9_wouldBe RX9 rmX9_wouldBe) (h : Nat) (a_post : Nat) (a_read : Nat) (a_now : Nat) (a_aside : Nat) (a_past : Nat) (a_kept : Nat) (a_sights : Nat) (a_text : Nat) (a_weights : Nat) (a_tried : Nat) (a_row : Nat) (a_who : Nat) (a_order : Nat) (a_bestOrder : Nat) (a_costs : Nat) (a_taken : Nat) (f_undos : Int32) (f_keptMany : Int32) (f_sightMany : Int32) (f_size : Int32) (f_at : Int32) (f_value : Int32) (f_above : Int64) (f_below : Int64) (f_paid : Int32) (f_post : Nat → Int32) (f_weights : Nat → Int32) (f_tried : Nat → Int32) (f_row : Nat → Int32) (y_1 : Int32) (y_2 : Int32) (y_3 : Int32) (y_4 : Int32) {z : Int32 × (Nat → Int32)} (hR : ∀ (lv : List (Nat × Value)) (pc : Nat), (z.1 = 0 ∨ z.1 = 1) → decode cX9_wouldBe pc = .ok (.ireturn, 1) → gg cI X 7 0 0 [oX9 h a_post a_read a_now a_aside a_past f_undos a_kept f_keptMany a_sights f_sightMany a_text f_size f_at f_value a_weights a_tried f_above f_below f_paid a_row a_who a_order a_bestOrder a_costs a_taken, aI cI a_post 52 f_post, aI cI a_weights 8 f_weights, aI cI a_tried 8 z.2, aI cI a_row 3 f_row] lv pc [.int z.1]) {K69 : Int32 → Option (Int32 × (Nat → Int32))} (hK69 : ∀ (k_5 : Int32), K69 k_5 = some z → gg cI X 7 0 0 [oX9 h a_post a_read a_now a_aside a_past f_undos a_kept f_keptMany a_sights f_sightMany a_text f_size f_at f_value a_weights a_tried f_above f_below f_paid a_row a_who a_order a_bestOrder a_costs a_taken, aI cI a_post 52 f_post, aI cI a_weights 8 f_weights, aI cI a_tried 8 f_tried, aI cI a_row 3 f_row] [(0, .ref h), (1, .int y_1), (2, .int y_2), (3, .int y_3), (4, .int y_4), (5, .int k_5)] 69 []) : ∀ (n : Nat) (y_5 : Int32) (y_6 : Int32), LX9_wouldBe_26 y_1 y_3 y_4 f_post f_row K69 n y_5 y_6 = some z → gg cI X 7 0 0 [oX9 h a_post a_read a_now a_aside a_past f_undos a_kept f_keptMany a_sights f_sightMany a_text f_size f_at f_value a_weights a_tried f_above f_below f_paid a_row a_who a_order a_bestOrder a_costs a_taken, aI cI a_post 52 f_post, aI cI a_weights 8 f_weights, aI cI a_tried 8 f_tried, aI cI a_row 3 f_row] [(0, .ref h), (1, .int y_1), (2, .int y_2), (3, .int y_3), (4, .int y_4), (5, .int y_5), (6, .int y_6)] 26 [] := by
  intro n
  induction n with
  | zero =>
    intro y_5 y_6 hs
    exact nn_ok hs
  | succ n ih =>
    intro y_5 y_6 hs
    rw [LX9_wouldBe_26] at hs
    refine g_iload (pl := 6) C dX9_wouldBe_26 rfl ?_
    refine g_iload_n (pl := 3) C dX9_wouldBe_28 rfl rfl ?_
    refine g_icmp_ge (tgt := 69) C dX9_wouldBe_29 (by decide) (fun c1 => ?_) (fun c1 => ?_)
    · replace hs := vi_t hs c1
      refine g_sub [0, 1, 2, 3, 4, 5] rfl ?_
      exact hK69 y_5 hs
    · replace hs := vi_f hs c1
      refine g_iload (pl := 5) C dX9_wouldBe_32 rfl ?_
      refine g_aload_n (pl := 0) C dX9_wouldBe_34 rfl rfl ?_
      refine g_iload_n (pl := 1) C dX9_wouldBe_35 rfl rfl ?_
      refine g_iload (pl := 4) C dX9_wouldBe_36 rfl ?_
      refine g_aload_n (pl := 0) C dX9_wouldBe_38 rfl rfl ?_
      refine g_get C fX9_40 0 rfl rfl dX9_wouldBe_39 ?_
      refine g_iload (pl := 6) C dX9_wouldBe_42 rfl ?_
      obtain ⟨b2, hs⟩ := vg_ok hs
      refine g_iald C 4 rfl (vin_ok b2) dX9_wouldBe_44 ?_
      refine g_aload_n (pl := 0) C dX9_wouldBe_45 rfl rfl ?_
      refine g_get C fX9_7 0 rfl rfl dX9_wouldBe_46 ?_
      refine g_iconst (v := (nI 4)) C dX9_wouldBe_49 rfl ?_
      refine g_iald C 1 rfl (vin_ok rfl) dX9_wouldBe_50 ?_
      refine g_aload_n (pl := 0) C dX9_wouldBe_51 rfl rfl ?_
      refine g_get C fX9_7 0 rfl rfl dX9_wouldBe_52 ?_
      refine g_iconst (v := (nI 5)) C dX9_wouldBe_55 rfl ?_
      refine g_iald C 1 rfl (vin_ok rfl) dX9_wouldBe_56 ?_
      obtain ⟨z3, e_z3, hs⟩ := vb_ok hs
      refine g_callV (ws' := [oX9 h a_post a_read a_now a_aside a_past f_undos a_kept f_keptMany a_sights f_sightMany a_text f_size f_at f_value a_weights a_tried f_above f_below f_paid a_row a_who a_order a_bestOrder a_costs a_taken, aI cI a_post 52 f_post, aI cI a_weights 8 f_weights, aI cI a_tried 8 f_tried, aI cI a_row 3 f_row]) (rest := [.int y_5]) (st' := [.int z3, .int y_5]) C mX9_175 q5_81 [.int y_1, .int y_4, .int (f_row (Int32.toNatClampNeg y_6)), .int (f_post (Int32.toNatClampNeg (nI 4))), .int (f_post (Int32.toNatClampNeg (nI 5)))] (fun l D => cX9_times_ct l D cI h a_post a_read a_now a_aside a_past a_kept a_sights a_text a_weights a_tried a_row a_who a_order a_bestOrder a_costs a_taken f_undos f_keptMany f_sightMany f_size f_at f_value f_above f_below f_paid f_post y_1 y_4 (f_row (Int32.toNatClampNeg y_6)) (f_post (Int32.toNatClampNeg (nI 4))) (f_post (Int32.toNatClampNeg (nI 5))) e_z3) ⟨⟨rfl, rfl⟩, Nat.le_of_ble_eq_true rfl, Nat.le_of_ble_eq_true rfl⟩ 0 rfl rfl rfl [0, 1] rfl rfl rfl rfl rfl (Nat.le_of_ble_eq_true rfl) (Nat.zero_le _) (Nat.zero_le _) rfl dX9_wouldBe_57 ?_
      refine g_imul C dX9_wouldBe_60 ?_
      obtain ⟨y4, e_y4, hs⟩ := vlet_ex hs
      refine g_topi e_y4 ?_
      refine g_istore (lv' := [(5, .int y4), (0, .ref h), (1, .int y_1), (2, .int y_2), (3, .int y_3), (4, .int y_4), (6, .int y_6)]) C dX9_wouldBe_61 (by decide) rfl ?_
      obtain ⟨y5, e_y5, hs⟩ := vlet_ex hs
      refine g_iinc (pl := 6) (lv' := [(6, .int y5), (5, .int y4), (0, .ref h), (1, .int y_1), (2, .int y_2), (3, .int y_3), (4, .int y_4)]) C dX9_wouldBe_63 rfl e_y5.symm (by decide) rfl ?_
      refine g_goto (tgt := 26) C dX9_wouldBe_66 (by decide) ?_
      refine g_sub [2, 3, 4, 5, 6, 1, 0] rfl ?_
      exact ih y4 y5 hs
set_option maxHeartbeats 4000000 in
set_option maxRecDepth 100000 in
theorem LX9_wouldBe_3_w {cI : ClassId} {X : xT} (C : cx cI X 7 cX9_wouldBe RX9 rmX9_wouldBe) (h : Nat) (a_post : Nat) (a_read : Nat) (a_now : Nat) (a_aside : Nat) (a_past : Nat) (a_kept : Nat) (a_sights : Nat) (a_text : Nat) (a_weights : Nat) (a_tried : Nat) (a_row : Nat) (a_who : Nat) (a_order : Nat) (a_bestOrder : Nat) (a_costs : Nat) (a_taken : Nat) (f_undos : Int32) (f_keptMany : Int32) (f_sightMany : Int32) (f_size : Int32) (f_at : Int32) (f_value : Int32) (f_above : Int64) (f_below : Int64) (f_paid : Int32) (f_post : Nat → Int32) (f_weights : Nat → Int32) (f_row : Nat → Int32) (y_1 : Int32) (y_2 : Int32) (y_3 : Int32) {z : Int32 × (Nat → Int32)} (hR : ∀ (lv : List (Nat × Value)) (pc : Nat), (z.1 = 0 ∨ z.1 = 1) → decode cX9_wouldBe pc = .ok (.ireturn, 1) → gg cI X 7 0 0 [oX9 h a_post a_read a_now a_aside a_past f_undos a_kept f_keptMany a_sights f_sightMany a_text f_size f_at f_value a_weights a_tried f_above f_below f_paid a_row a_who a_order a_bestOrder a_costs a_taken, aI cI a_post 52 f_post, aI cI a_weights 8 f_weights, aI cI a_tried 8 z.2, aI cI a_row 3 f_row] lv pc [.int z.1]) : ∀ (n : Nat) (y_4 : Int32) (f_tried : Nat → Int32), LX9_wouldBe_3 y_1 y_2 y_3 f_post f_weights f_row n y_4 f_tried = some z → gg cI X 7 0 0 [oX9 h a_post a_read a_now a_aside a_past f_undos a_kept f_keptMany a_sights f_sightMany a_text f_size f_at f_value a_weights a_tried f_above f_below f_paid a_row a_who a_order a_bestOrder a_costs a_taken, aI cI a_post 52 f_post, aI cI a_weights 8 f_weights, aI cI a_tried 8 f_tried, aI cI a_row 3 f_row] [(0, .ref h), (1, .int y_1), (2, .int y_2), (3, .int y_3), (4, .int y_4)] 3 [] := by
  intro n
  induction n with
  | zero =>
    intro y_4 f_tried hs
    exact nn_ok hs
  | succ n ih =>
    intro y_4 f_tried hs
    rw [LX9_wouldBe_3] at hs
    refine g_iload (pl := 4) C dX9_wouldBe_3 rfl ?_
    refine g_aload_n (pl := 0) C dX9_wouldBe_5 rfl rfl ?_
    refine g_get C fX9_7 0 rfl rfl dX9_wouldBe_6 ?_
    refine g_iconst (v := (nI 0)) C dX9_wouldBe_9 rfl ?_
    refine g_iald C 1 rfl (vin_ok rfl) dX9_wouldBe_10 ?_
    refine g_icmp_ge (tgt := 84) C dX9_wouldBe_11 (by decide) (fun c6 => ?_) (fun c6 => ?_)
    · replace hs := vi_t hs c6
      refine g_aload_n (pl := 0) C dX9_wouldBe_84 rfl rfl ?_
      refine g_aload_n (pl := 0) C dX9_wouldBe_85 rfl rfl ?_
      refine g_get C fX9_37 0 rfl rfl dX9_wouldBe_86 ?_
      obtain ⟨z7, e_z7, hs⟩ := vb_ok hs
      refine g_callV (ws' := [oX9 h a_post a_read a_now a_aside a_past f_undos a_kept f_keptMany a_sights f_sightMany a_text f_size f_at f_value a_weights a_tried f_above f_below f_paid a_row a_who a_order a_bestOrder a_costs a_taken, aI cI a_post 52 f_post, aI cI a_weights 8 f_weights, aI cI a_tried 8 f_tried, aI cI a_row 3 f_row]) (rest := []) (st' := [.int z7]) C mX9_187 q5_117 [.ref a_tried] (fun l D => cX9_greatest_ct l D cI h a_post a_read a_now a_aside a_past a_kept a_sights a_text a_weights a_tried a_row a_who a_order a_bestOrder a_costs a_taken a_tried f_undos f_keptMany f_sightMany f_size f_at f_value f_above f_below f_paid f_post f_tried e_z7) ⟨⟨rfl, rfl⟩, Nat.le_of_ble_eq_true rfl, Nat.le_of_ble_eq_true rfl⟩ 0 rfl rfl rfl [0, 1, 3] rfl rfl rfl rfl rfl (Nat.le_of_ble_eq_true rfl) (Nat.zero_le _) (Nat.zero_le _) rfl dX9_wouldBe_89 ?_
      refine g_iload_n (pl := 2) C dX9_wouldBe_92 rfl rfl ?_
      refine g_icmp_ne (tgt := 100) C dX9_wouldBe_93 (by decide) (fun c8 => ?_) (fun c8 => ?_)
      · replace hs := vi_f hs c8
        refine g_iconst (v := (nI 0)) C dX9_wouldBe_100 rfl ?_
        cases hs
        exact hR _ _ (Or.inl rfl) dX9_wouldBe_101
      · replace hs := vi_t hs c8
        refine g_iconst (v := (nI 1)) C dX9_wouldBe_96 rfl ?_
        refine g_goto (tgt := 101) C dX9_wouldBe_97 (by decide) ?_
        cases hs
        exact hR _ _ (Or.inr rfl) dX9_wouldBe_101
    · replace hs := vi_f hs c6
      refine g_aload_n (pl := 0) C dX9_wouldBe_14 rfl rfl ?_
      refine g_get C fX9_34 0 rfl rfl dX9_wouldBe_15 ?_
      refine g_iload (pl := 4) C dX9_wouldBe_18 rfl ?_
      obtain ⟨b9, hs⟩ := vg_ok hs
      refine g_iald C 2 rfl (vin_ok b9) dX9_wouldBe_20 ?_
      obtain ⟨y10, e_y10, hs⟩ := vlet_ex hs
      refine g_topi e_y10 ?_
      refine g_istore (lv' := [(5, .int y10), (0, .ref h), (1, .int y_1), (2, .int y_2), (3, .int y_3), (4, .int y_4)]) C dX9_wouldBe_21 (by decide) rfl ?_
      refine g_iconst (v := (nI 0)) C dX9_wouldBe_23 rfl ?_
      refine g_istore (lv' := [(6, .int (nI 0)), (5, .int y10), (0, .ref h), (1, .int y_1), (2, .int y_2), (3, .int y_3), (4, .int y_4)]) C dX9_wouldBe_24 (by decide) rfl ?_
      refine g_sub [2, 3, 4, 5, 6, 1, 0] rfl ?_
      refine LX9_wouldBe_26_w C h a_post a_read a_now a_aside a_past a_kept a_sights a_text a_weights a_tried a_row a_who a_order a_bestOrder a_costs a_taken f_undos f_keptMany f_sightMany f_size f_at f_value f_above f_below f_paid f_post f_weights f_tried f_row y_1 y_2 y_3 y_4 hR ?_ _ y10 (nI 0) hs
      · intro v11 hs
        refine g_aload_n (pl := 0) C dX9_wouldBe_69 rfl rfl ?_
        refine g_get C fX9_37 0 rfl rfl dX9_wouldBe_70 ?_
        refine g_iload (pl := 4) C dX9_wouldBe_73 rfl ?_
        refine g_iload (pl := 5) C dX9_wouldBe_75 rfl ?_
        obtain ⟨b12, hs⟩ := vg_ok hs
        obtain ⟨u13, e_u13, hs⟩ := vlet_ex hs
        refine g_iast (ws' := [oX9 h a_post a_read a_now a_aside a_past f_undos a_kept f_keptMany a_sights f_sightMany a_text f_size f_at f_value a_weights a_tried f_above f_below f_paid a_row a_who a_order a_bestOrder a_costs a_taken, aI cI a_post 52 f_post, aI cI a_weights 8 f_weights, aI cI a_tried 8 u13, aI cI a_row 3 f_row]) C 3 rfl (vin_ok b12) (by rw [e_u13]; rfl) dX9_wouldBe_77 ?_
        obtain ⟨y14, e_y14, hs⟩ := vlet_ex hs
        refine g_iinc (pl := 4) (lv' := [(4, .int y14), (0, .ref h), (1, .int y_1), (2, .int y_2), (3, .int y_3), (5, .int v11)]) C dX9_wouldBe_78 rfl e_y14.symm (by decide) rfl ?_
        refine g_goto (tgt := 3) C dX9_wouldBe_81 (by decide) ?_
        refine g_sub [1, 2, 3, 4, 0] rfl ?_
        exact ih y14 u13 hs
set_option maxHeartbeats 4000000 in
set_option maxRecDepth 100000 in
theorem cX9_wouldBe_ct (l : Launch) (D : va_G) (cI : ClassId) (h : Nat) (a_post : Nat) (a_read : Nat) (a_now : Nat) (a_aside : Nat) (a_past : Nat) (a_kept : Nat) (a_sights : Nat) (a_text : Nat) (a_weights : Nat) (a_tried : Nat) (a_row : Nat) (a_who : Nat) (a_order : Nat) (a_bestOrder : Nat) (a_costs : Nat) (a_taken : Nat) (f_undos : Int32) (f_keptMany : Int32) (f_sightMany : Int32) (f_size : Int32) (f_at : Int32) (f_value : Int32) (f_above : Int64) (f_below : Int64) (f_paid : Int32) (f_post : Nat → Int32) (f_weights : Nat → Int32) (f_tried : Nat → Int32) (f_row : Nat → Int32) (x1 : Int32) (x2 : Int32) (x3 : Int32) {z : Int32 × (Nat → Int32)} (hs : sX9_wouldBe f_post f_weights f_tried f_row x1 x2 x3 = some z) : ct l yX9_wouldBe (.code yX9_wouldBe cX9_wouldBe 7 (some .boolean) :: gtb) rmX9_wouldBe D cI [.ref h, .int x1, .int x2, .int x3] [oX9 h a_post a_read a_now a_aside a_past f_undos a_kept f_keptMany a_sights f_sightMany a_text f_size f_at f_value a_weights a_tried f_above f_below f_paid a_row a_who a_order a_bestOrder a_costs a_taken, aI cI a_post 52 f_post, aI cI a_weights 8 f_weights, aI cI a_tried 8 f_tried, aI cI a_row 3 f_row] (some (.int z.1)) [oX9 h a_post a_read a_now a_aside a_past f_undos a_kept f_keptMany a_sights f_sightMany a_text f_size f_at f_value a_weights a_tried f_above f_below f_paid a_row a_who a_order a_bestOrder a_costs a_taken, aI cI a_post 52 f_post, aI cI a_weights 8 f_weights, aI cI a_tried 8 z.2, aI cI a_row 3 f_row] := by
  refine ct_ofZ (own := RX9) (by decide +kernel) rfl (Nat.le_of_ble_eq_true rfl) (fun X C hD hR => ?_)
  unfold sX9_wouldBe at hs
  show gg cI X 7 0 0 [oX9 h a_post a_read a_now a_aside a_past f_undos a_kept f_keptMany a_sights f_sightMany a_text f_size f_at f_value a_weights a_tried f_above f_below f_paid a_row a_who a_order a_bestOrder a_costs a_taken, aI cI a_post 52 f_post, aI cI a_weights 8 f_weights, aI cI a_tried 8 f_tried, aI cI a_row 3 f_row] [(0, .ref h), (1, .int x1), (2, .int x2), (3, .int x3)] 0 []
  refine g_iconst (v := (nI 0)) C dX9_wouldBe_0 rfl ?_
  refine g_istore (lv' := [(4, .int (nI 0)), (0, .ref h), (1, .int x1), (2, .int x2), (3, .int x3)]) C dX9_wouldBe_1 (by decide) rfl ?_
  refine g_sub [1, 2, 3, 4, 0] rfl ?_
  exact LX9_wouldBe_3_w C h a_post a_read a_now a_aside a_past a_kept a_sights a_text a_weights a_tried a_row a_who a_order a_bestOrder a_costs a_taken f_undos f_keptMany f_sightMany f_size f_at f_value f_above f_below f_paid f_post f_weights f_row x1 x2 x3 hR _ (nI 0) f_tried hs
def LX9_nextRow_55 (y_1 : Int32) (y_3 : Int32) : Nat → Int32 → (Nat → Int32) → Option (Int32 × (Nat → Int32))
  | 0, _, _ => none
  | n + 1, y_4, f_row =>
    vi (y_1 ≤ y_4) inferInstance (
      some ((nI 1), f_row)) (
      vg (vin y_4 3) (
      vlet (upd f_row (Int32.toNatClampNeg y_4) y_3) fun u3 =>
      vlet (y_4 + (nI 1)) fun y4 =>
      LX9_nextRow_55 y_1 y_3 n y4 u3))
def LX9_nextRow_17 (f_post : Nat → Int32) (K44 : Int32 → Option (Int32 × (Nat → Int32))) : Nat → Int32 → Option (Int32 × (Nat → Int32))
  | 0, _ => none
  | n + 1, y_3 =>
    vb (sX9_signs f_post) fun z5 =>
    vi (z5 ≤ y_3) inferInstance (
      K44 y_3) (
      vb (sX9_has (f_post (Int32.toNatClampNeg (nI 3))) y_3) fun z7 =>
      vi (z7 = 0) inferInstance (
        K44 y_3) (
        vlet (y_3 + (nI 1)) fun y9 =>
        LX9_nextRow_17 f_post K44 n y9))
def LX9_nextRow_4 (y_1 : Int32) (f_post : Nat → Int32) (f_row : Nat → Int32) : Nat → Int32 → Option (Int32 × (Nat → Int32))
  | 0, _ => none
  | n + 1, y_2 =>
    vi (y_2 < 0) inferInstance (
      some ((nI 0), f_row)) (
      vg (vin y_2 3) (
      vlet ((f_row (Int32.toNatClampNeg y_2)) + (nI 1)) fun y12 =>
      LX9_nextRow_17 f_post (fun (v13 : Int32) =>
          vb (sX9_signs f_post) fun z14 =>
          vi (z14 ≤ v13) inferInstance (
            vlet (y_2 + (-1)) fun y16 =>
            LX9_nextRow_4 y_1 f_post f_row n y16) (
            LX9_nextRow_55 y_1 v13 vF y_2 f_row)) vF y12))
def sX9_nextRow (f_post : Nat → Int32) (f_row : Nat → Int32) (x1 : Int32) : Option (Int32 × (Nat → Int32)) :=
  vlet (x1 - (nI 1)) fun y17 =>
  LX9_nextRow_4 x1 f_post f_row vF y17
abbrev rmX9_nextRow : Room := { frames := 1, cells := 0, slots := 0, locals := 21 }
set_option maxHeartbeats 4000000 in
set_option maxRecDepth 100000 in
theorem LX9_nextRow_55_w {cI : ClassId} {X : xT} (C : cx cI X 5 cX9_nextRow RX9 rmX9_nextRow) (h : Nat) (a_post : Nat) (a_read : Nat) (a_now : Nat) (a_aside : Nat) (a_past : Nat) (a_kept : Nat) (a_sights : Nat) (a_text : Nat) (a_weights : Nat) (a_tried : Nat) (a_row : Nat) (a_who : Nat) (a_order : Nat) (a_bestOrder : Nat) (a_costs : Nat) (a_taken : Nat) (f_undos : Int32) (f_keptMany : Int32) (f_sightMany : Int32) (f_size : Int32) (f_at : Int32) (f_value : Int32) (f_above : Int64) (f_below : Int64) (f_paid : Int32) (f_post : Nat → Int32) (y_1 : Int32) (y_3 : Int32) {z : Int32 × (Nat → Int32)} (hR : ∀ (lv : List (Nat × Value)) (pc : Nat), (z.1 = 0 ∨ z.1 = 1) → decode cX9_nextRow pc = .ok (.ireturn, 1) → gg cI X 5 0 0 [oX9 h a_post a_read a_now a_aside a_past f_undos a_kept f_keptMany a_sights f_sightMany a_text f_size f_at f_value a_weights a_tried f_above f_below f_paid a_row a_who a_order a_bestOrder a_costs a_taken, aI cI a_post 52 f_post, aI cI a_row 3 z.2] lv pc [.int z.1]) : ∀ (n : Nat) (y_4 : Int32) (f_row : Nat → Int32), LX9_nextRow_55 y_1 y_3 n y_4 f_row = some z → gg cI X 5 0 0 [oX9 h a_post a_read a_now a_aside a_past f_undos a_kept f_keptMany a_sights f_sightMany a_text f_size f_at f_value a_weights a_tried f_above f_below f_paid a_row a_who a_order a_bestOrder a_costs a_taken, aI cI a_post 52 f_post, aI cI a_row 3 f_row] [(0, .ref h), (1, .int y_1), (3, .int y_3), (4, .int y_4)] 55 [] := by
  intro n
  induction n with
  | zero =>
    intro y_4 f_row hs
    exact nn_ok hs
  | succ n ih =>
    intro y_4 f_row hs
    rw [LX9_nextRow_55] at hs
    refine g_iload (pl := 3) C dX9_nextRow_55 rfl ?_
    refine g_iload_n (pl := 1) C dX9_nextRow_57 rfl rfl ?_
    refine g_icmp_ge (tgt := 75) C dX9_nextRow_58 (by decide) (fun c1 => ?_) (fun c1 => ?_)
    · replace hs := vi_t hs c1
      refine g_iconst (v := (nI 1)) C dX9_nextRow_75 rfl ?_
      cases hs
      exact hR _ _ (Or.inr rfl) dX9_nextRow_76
    · replace hs := vi_f hs c1
      refine g_aload_n (pl := 0) C dX9_nextRow_61 rfl rfl ?_
      refine g_get C fX9_40 0 rfl rfl dX9_nextRow_62 ?_
      refine g_iload (pl := 3) C dX9_nextRow_65 rfl ?_
      refine g_iload_n (pl := 2) C dX9_nextRow_67 rfl rfl ?_
      obtain ⟨b2, hs⟩ := vg_ok hs
      obtain ⟨u3, e_u3, hs⟩ := vlet_ex hs
      refine g_iast (ws' := [oX9 h a_post a_read a_now a_aside a_past f_undos a_kept f_keptMany a_sights f_sightMany a_text f_size f_at f_value a_weights a_tried f_above f_below f_paid a_row a_who a_order a_bestOrder a_costs a_taken, aI cI a_post 52 f_post, aI cI a_row 3 u3]) C 2 rfl (vin_ok b2) (by rw [e_u3]; rfl) dX9_nextRow_68 ?_
      obtain ⟨y4, e_y4, hs⟩ := vlet_ex hs
      refine g_iinc (pl := 3) (lv' := [(4, .int y4), (0, .ref h), (1, .int y_1), (3, .int y_3)]) C dX9_nextRow_69 rfl e_y4.symm (by decide) rfl ?_
      refine g_goto (tgt := 55) C dX9_nextRow_72 (by decide) ?_
      refine g_sub [1, 2, 3, 0] rfl ?_
      exact ih y4 u3 hs
set_option maxHeartbeats 4000000 in
set_option maxRecDepth 100000 in
theorem LX9_nextRow_17_w {cI : ClassId} {X : xT} (C : cx cI X 5 cX9_nextRow RX9 rmX9_nextRow) (h : Nat) (a_post : Nat) (a_read : Nat) (a_now : Nat) (a_aside : Nat) (a_past : Nat) (a_kept : Nat) (a_sights : Nat) (a_text : Nat) (a_weights : Nat) (a_tried : Nat) (a_row : Nat) (a_who : Nat) (a_order : Nat) (a_bestOrder : Nat) (a_costs : Nat) (a_taken : Nat) (f_undos : Int32) (f_keptMany : Int32) (f_sightMany : Int32) (f_size : Int32) (f_at : Int32) (f_value : Int32) (f_above : Int64) (f_below : Int64) (f_paid : Int32) (f_post : Nat → Int32) (f_row : Nat → Int32) (y_1 : Int32) (y_2 : Int32) {z : Int32 × (Nat → Int32)} (hR : ∀ (lv : List (Nat × Value)) (pc : Nat), (z.1 = 0 ∨ z.1 = 1) → decode cX9_nextRow pc = .ok (.ireturn, 1) → gg cI X 5 0 0 [oX9 h a_post a_read a_now a_aside a_past f_undos a_kept f_keptMany a_sights f_sightMany a_text f_size f_at f_value a_weights a_tried f_above f_below f_paid a_row a_who a_order a_bestOrder a_costs a_taken, aI cI a_post 52 f_post, aI cI a_row 3 z.2] lv pc [.int z.1]) {K44 : Int32 → Option (Int32 × (Nat → Int32))} (hK44 : ∀ (k_3 : Int32), K44 k_3 = some z → gg cI X 5 0 0 [oX9 h a_post a_read a_now a_aside a_past f_undos a_kept f_keptMany a_sights f_sightMany a_text f_size f_at f_value a_weights a_tried f_above f_below f_paid a_row a_who a_order a_bestOrder a_costs a_taken, aI cI a_post 52 f_post, aI cI a_row 3 f_row] [(0, .ref h), (1, .int y_1), (2, .int y_2), (3, .int k_3)] 44 []) : ∀ (n : Nat) (y_3 : Int32), LX9_nextRow_17 f_post K44 n y_3 = some z → gg cI X 5 0 0 [oX9 h a_post a_read a_now a_aside a_past f_undos a_kept f_keptMany a_sights f_sightMany a_text f_size f_at f_value a_weights a_tried f_above f_below f_paid a_row a_who a_order a_bestOrder a_costs a_taken, aI cI a_post 52 f_post, aI cI a_row 3 f_row] [(0, .ref h), (1, .int y_1), (2, .int y_2), (3, .int y_3)] 17 [] := by
  intro n
  induction n with
  | zero =>
    intro y_3 hs
    exact nn_ok hs
  | succ n ih =>
    intro y_3 hs
    rw [LX9_nextRow_17] at hs
    refine g_iload_n (pl := 3) C dX9_nextRow_17 rfl rfl ?_
    refine g_aload_n (pl := 0) C dX9_nextRow_18 rfl rfl ?_
    obtain ⟨z5, e_z5, hs⟩ := vb_ok hs
    refine g_callV (ws' := [oX9 h a_post a_read a_now a_aside a_past f_undos a_kept f_keptMany a_sights f_sightMany a_text f_size f_at f_value a_weights a_tried f_above f_below f_paid a_row a_who a_order a_bestOrder a_costs a_taken, aI cI a_post 52 f_post, aI cI a_row 3 f_row]) (rest := [.int y_3]) (st' := [.int z5, .int y_3]) C mX9_152 q5_53 [] (fun l D => cX9_signs_ct l D cI h a_post a_read a_now a_aside a_past a_kept a_sights a_text a_weights a_tried a_row a_who a_order a_bestOrder a_costs a_taken f_undos f_keptMany f_sightMany f_size f_at f_value f_above f_below f_paid f_post e_z5) ⟨⟨rfl, rfl⟩, Nat.le_of_ble_eq_true rfl, Nat.le_of_ble_eq_true rfl⟩ 0 rfl rfl rfl [0, 1] rfl rfl rfl rfl rfl (Nat.le_of_ble_eq_true rfl) (Nat.zero_le _) (Nat.zero_le _) rfl dX9_nextRow_19 ?_
    refine g_icmp_ge (tgt := 44) C dX9_nextRow_22 (by decide) (fun c6 => ?_) (fun c6 => ?_)
    · replace hs := vi_t hs c6
      refine g_sub [0, 1, 2, 3] rfl ?_
      exact hK44 y_3 hs
    · replace hs := vi_f hs c6
      refine g_aload_n (pl := 0) C dX9_nextRow_25 rfl rfl ?_
      refine g_get C fX9_7 0 rfl rfl dX9_nextRow_26 ?_
      refine g_iconst (v := (nI 3)) C dX9_nextRow_29 rfl ?_
      refine g_iald C 1 rfl (vin_ok rfl) dX9_nextRow_30 ?_
      refine g_iload_n (pl := 3) C dX9_nextRow_31 rfl rfl ?_
      obtain ⟨z7, e_z7, hs⟩ := vb_ok hs
      refine g_callS (ws' := [oX9 h a_post a_read a_now a_aside a_past f_undos a_kept f_keptMany a_sights f_sightMany a_text f_size f_at f_value a_weights a_tried f_above f_below f_paid a_row a_who a_order a_bestOrder a_costs a_taken, aI cI a_post 52 f_post, aI cI a_row 3 f_row]) (rest := []) (st' := [.int z7]) C mX9_120 q5_6 [.int (f_post (Int32.toNatClampNeg (nI 3))), .int y_3] (fun l D => cX9_has_ct l D cI (f_post (Int32.toNatClampNeg (nI 3))) y_3 e_z7) ⟨⟨rfl, rfl⟩, Nat.le_of_ble_eq_true rfl, Nat.le_of_ble_eq_true rfl⟩ rfl [] rfl rfl rfl rfl rfl (Nat.le_of_ble_eq_true rfl) (Nat.zero_le _) (Nat.zero_le _) rfl dX9_nextRow_32 ?_
      refine g_if_eq (tgt := 44) C dX9_nextRow_35 (by decide) (fun c8 => ?_) (fun c8 => ?_)
      · replace hs := vi_t hs c8
        refine g_sub [0, 1, 2, 3] rfl ?_
        exact hK44 y_3 hs
      · replace hs := vi_f hs c8
        obtain ⟨y9, e_y9, hs⟩ := vlet_ex hs
        refine g_iinc (pl := 3) (lv' := [(3, .int y9), (0, .ref h), (1, .int y_1), (2, .int y_2)]) C dX9_nextRow_38 rfl e_y9.symm (by decide) rfl ?_
        refine g_goto (tgt := 17) C dX9_nextRow_41 (by decide) ?_
        refine g_sub [1, 2, 3, 0] rfl ?_
        exact ih y9 hs
set_option maxHeartbeats 4000000 in
set_option maxRecDepth 100000 in
theorem LX9_nextRow_4_w {cI : ClassId} {X : xT} (C : cx cI X 5 cX9_nextRow RX9 rmX9_nextRow) (h : Nat) (a_post : Nat) (a_read : Nat) (a_now : Nat) (a_aside : Nat) (a_past : Nat) (a_kept : Nat) (a_sights : Nat) (a_text : Nat) (a_weights : Nat) (a_tried : Nat) (a_row : Nat) (a_who : Nat) (a_order : Nat) (a_bestOrder : Nat) (a_costs : Nat) (a_taken : Nat) (f_undos : Int32) (f_keptMany : Int32) (f_sightMany : Int32) (f_size : Int32) (f_at : Int32) (f_value : Int32) (f_above : Int64) (f_below : Int64) (f_paid : Int32) (f_post : Nat → Int32) (f_row : Nat → Int32) (y_1 : Int32) {z : Int32 × (Nat → Int32)} (hR : ∀ (lv : List (Nat × Value)) (pc : Nat), (z.1 = 0 ∨ z.1 = 1) → decode cX9_nextRow pc = .ok (.ireturn, 1) → gg cI X 5 0 0 [oX9 h a_post a_read a_now a_aside a_past f_undos a_kept f_keptMany a_sights f_sightMany a_text f_size f_at f_value a_weights a_tried f_above f_below f_paid a_row a_who a_order a_bestOrder a_costs a_taken, aI cI a_post 52 f_post, aI cI a_row 3 z.2] lv pc [.int z.1]) : ∀ (n : Nat) (y_2 : Int32), LX9_nextRow_4 y_1 f_post f_row n y_2 = some z → gg cI X 5 0 0 [oX9 h a_post a_read a_now a_aside a_past f_undos a_kept f_keptMany a_sights f_sightMany a_text f_size f_at f_value a_weights a_tried f_above f_below f_paid a_row a_who a_order a_bestOrder a_costs a_taken, aI cI a_post 52 f_post, aI cI a_row 3 f_row] [(0, .ref h), (1, .int y_1), (2, .int y_2)] 4 [] := by
  intro n
  induction n with
  | zero =>
    intro y_2 hs
    exact nn_ok hs
  | succ n ih =>
    intro y_2 hs
    rw [LX9_nextRow_4] at hs
    refine g_iload_n (pl := 2) C dX9_nextRow_4 rfl rfl ?_
    refine g_if_lt (tgt := 83) C dX9_nextRow_5 (by decide) (fun c10 => ?_) (fun c10 => ?_)
    · replace hs := vi_t hs c10
      refine g_iconst (v := (nI 0)) C dX9_nextRow_83 rfl ?_
      cases hs
      exact hR _ _ (Or.inl rfl) dX9_nextRow_84
    · replace hs := vi_f hs c10
      refine g_aload_n (pl := 0) C dX9_nextRow_8 rfl rfl ?_
      refine g_get C fX9_40 0 rfl rfl dX9_nextRow_9 ?_
      refine g_iload_n (pl := 2) C dX9_nextRow_12 rfl rfl ?_
      obtain ⟨b11, hs⟩ := vg_ok hs
      refine g_iald C 2 rfl (vin_ok b11) dX9_nextRow_13 ?_
      refine g_iconst (v := (nI 1)) C dX9_nextRow_14 rfl ?_
      refine g_iadd C dX9_nextRow_15 ?_
      obtain ⟨y12, e_y12, hs⟩ := vlet_ex hs
      refine g_topi e_y12 ?_
      refine g_istore_n (lv' := [(3, .int y12), (0, .ref h), (1, .int y_1), (2, .int y_2)]) C dX9_nextRow_16 rfl (by decide) rfl ?_
      refine g_sub [1, 2, 3, 0] rfl ?_
      refine LX9_nextRow_17_w C h a_post a_read a_now a_aside a_past a_kept a_sights a_text a_weights a_tried a_row a_who a_order a_bestOrder a_costs a_taken f_undos f_keptMany f_sightMany f_size f_at f_value f_above f_below f_paid f_post f_row y_1 y_2 hR ?_ _ y12 hs
      · intro v13 hs
        refine g_iload_n (pl := 3) C dX9_nextRow_44 rfl rfl ?_
        refine g_aload_n (pl := 0) C dX9_nextRow_45 rfl rfl ?_
        obtain ⟨z14, e_z14, hs⟩ := vb_ok hs
        refine g_callV (ws' := [oX9 h a_post a_read a_now a_aside a_past f_undos a_kept f_keptMany a_sights f_sightMany a_text f_size f_at f_value a_weights a_tried f_above f_below f_paid a_row a_who a_order a_bestOrder a_costs a_taken, aI cI a_post 52 f_post, aI cI a_row 3 f_row]) (rest := [.int v13]) (st' := [.int z14, .int v13]) C mX9_152 q5_53 [] (fun l D => cX9_signs_ct l D cI h a_post a_read a_now a_aside a_past a_kept a_sights a_text a_weights a_tried a_row a_who a_order a_bestOrder a_costs a_taken f_undos f_keptMany f_sightMany f_size f_at f_value f_above f_below f_paid f_post e_z14) ⟨⟨rfl, rfl⟩, Nat.le_of_ble_eq_true rfl, Nat.le_of_ble_eq_true rfl⟩ 0 rfl rfl rfl [0, 1] rfl rfl rfl rfl rfl (Nat.le_of_ble_eq_true rfl) (Nat.zero_le _) (Nat.zero_le _) rfl dX9_nextRow_46 ?_
        refine g_icmp_ge (tgt := 77) C dX9_nextRow_49 (by decide) (fun c15 => ?_) (fun c15 => ?_)
        · replace hs := vi_t hs c15
          obtain ⟨y16, e_y16, hs⟩ := vlet_ex hs
          refine g_iinc (pl := 2) (lv' := [(2, .int y16), (0, .ref h), (1, .int y_1), (3, .int v13)]) C dX9_nextRow_77 rfl e_y16.symm (by decide) rfl ?_
          refine g_goto (tgt := 4) C dX9_nextRow_80 (by decide) ?_
          refine g_sub [1, 2, 0] rfl ?_
          exact ih y16 hs
        · replace hs := vi_f hs c15
          refine g_iload_n (pl := 2) C dX9_nextRow_52 rfl rfl ?_
          refine g_istore (lv' := [(4, .int y_2), (0, .ref h), (1, .int y_1), (2, .int y_2), (3, .int v13)]) C dX9_nextRow_53 (by decide) rfl ?_
          refine g_sub [1, 2, 4, 0] rfl ?_
          exact LX9_nextRow_55_w C h a_post a_read a_now a_aside a_past a_kept a_sights a_text a_weights a_tried a_row a_who a_order a_bestOrder a_costs a_taken f_undos f_keptMany f_sightMany f_size f_at f_value f_above f_below f_paid f_post y_1 v13 hR _ y_2 f_row hs
set_option maxHeartbeats 4000000 in
set_option maxRecDepth 100000 in
theorem cX9_nextRow_ct (l : Launch) (D : va_G) (cI : ClassId) (h : Nat) (a_post : Nat) (a_read : Nat) (a_now : Nat) (a_aside : Nat) (a_past : Nat) (a_kept : Nat) (a_sights : Nat) (a_text : Nat) (a_weights : Nat) (a_tried : Nat) (a_row : Nat) (a_who : Nat) (a_order : Nat) (a_bestOrder : Nat) (a_costs : Nat) (a_taken : Nat) (f_undos : Int32) (f_keptMany : Int32) (f_sightMany : Int32) (f_size : Int32) (f_at : Int32) (f_value : Int32) (f_above : Int64) (f_below : Int64) (f_paid : Int32) (f_post : Nat → Int32) (f_row : Nat → Int32) (x1 : Int32) {z : Int32 × (Nat → Int32)} (hs : sX9_nextRow f_post f_row x1 = some z) : ct l yX9_nextRow (.code yX9_nextRow cX9_nextRow 5 (some .boolean) :: gtb) rmX9_nextRow D cI [.ref h, .int x1] [oX9 h a_post a_read a_now a_aside a_past f_undos a_kept f_keptMany a_sights f_sightMany a_text f_size f_at f_value a_weights a_tried f_above f_below f_paid a_row a_who a_order a_bestOrder a_costs a_taken, aI cI a_post 52 f_post, aI cI a_row 3 f_row] (some (.int z.1)) [oX9 h a_post a_read a_now a_aside a_past f_undos a_kept f_keptMany a_sights f_sightMany a_text f_size f_at f_value a_weights a_tried f_above f_below f_paid a_row a_who a_order a_bestOrder a_costs a_taken, aI cI a_post 52 f_post, aI cI a_row 3 z.2] := by
  refine ct_ofZ (own := RX9) (by decide +kernel) rfl (Nat.le_of_ble_eq_true rfl) (fun X C hD hR => ?_)
  unfold sX9_nextRow at hs
  show gg cI X 5 0 0 [oX9 h a_post a_read a_now a_aside a_past f_undos a_kept f_keptMany a_sights f_sightMany a_text f_size f_at f_value a_weights a_tried f_above f_below f_paid a_row a_who a_order a_bestOrder a_costs a_taken, aI cI a_post 52 f_post, aI cI a_row 3 f_row] [(0, .ref h), (1, .int x1)] 0 []
  refine g_iload_n (pl := 1) C dX9_nextRow_0 rfl rfl ?_
  refine g_iconst (v := (nI 1)) C dX9_nextRow_1 rfl ?_
  refine g_isub C dX9_nextRow_2 ?_
  obtain ⟨y17, e_y17, hs⟩ := vlet_ex hs
  refine g_topi e_y17 ?_
  refine g_istore_n (lv' := [(2, .int y17), (0, .ref h), (1, .int x1)]) C dX9_nextRow_3 rfl (by decide) rfl ?_
  refine g_sub [1, 2, 0] rfl ?_
  exact LX9_nextRow_4_w C h a_post a_read a_now a_aside a_past a_kept a_sights a_text a_weights a_tried a_row a_who a_order a_bestOrder a_costs a_taken f_undos f_keptMany f_sightMany f_size f_at f_value f_above f_below f_paid f_post f_row x1 hR _ y17 hs
def LX9_firstRow_31 (y_1 : Int32) (y_2 : Int32) (f_post : Nat → Int32) : Nat → Int32 → (Nat → Int32) → Option (Int32 × (Nat → Int32))
  | 0, _, _ => none
  | n + 1, y_3, f_row =>
    vi (y_1 ≤ y_3) inferInstance (
      vi (y_1 = 0) inferInstance (
        some ((nI 1), f_row)) (
        vb (sX9_signs f_post) fun z3 =>
        vi (z3 ≤ y_2) inferInstance (
          some ((nI 0), f_row)) (
          some ((nI 1), f_row)))) (
      vg (vin y_3 3) (
      vlet (upd f_row (Int32.toNatClampNeg y_3) y_2) fun u6 =>
      vlet (y_3 + (nI 1)) fun y7 =>
      LX9_firstRow_31 y_1 y_2 f_post n y7 u6))
def LX9_firstRow_2 (y_1 : Int32) (f_post : Nat → Int32) (f_row : Nat → Int32) : Nat → Int32 → Option (Int32 × (Nat → Int32))
  | 0, _ => none
  | n + 1, y_2 =>
    vb (sX9_signs f_post) fun z8 =>
    vi (z8 ≤ y_2) inferInstance (
      LX9_firstRow_31 y_1 y_2 f_post vF (nI 0) f_row) (
      vb (sX9_has (f_post (Int32.toNatClampNeg (nI 3))) y_2) fun z10 =>
      vi (z10 = 0) inferInstance (
        LX9_firstRow_31 y_1 y_2 f_post vF (nI 0) f_row) (
        vlet (y_2 + (nI 1)) fun y12 =>
        LX9_firstRow_2 y_1 f_post f_row n y12))
def sX9_firstRow (f_post : Nat → Int32) (f_row : Nat → Int32) (x1 : Int32) : Option (Int32 × (Nat → Int32)) :=
  LX9_firstRow_2 x1 f_post f_row vF (nI 0)
abbrev rmX9_firstRow : Room := { frames := 1, cells := 0, slots := 0, locals := 21 }
set_option maxHeartbeats 4000000 in
set_option maxRecDepth 100000 in
theorem LX9_firstRow_31_w {cI : ClassId} {X : xT} (C : cx cI X 4 cX9_firstRow RX9 rmX9_firstRow) (h : Nat) (a_post : Nat) (a_read : Nat) (a_now : Nat) (a_aside : Nat) (a_past : Nat) (a_kept : Nat) (a_sights : Nat) (a_text : Nat) (a_weights : Nat) (a_tried : Nat) (a_row : Nat) (a_who : Nat) (a_order : Nat) (a_bestOrder : Nat) (a_costs : Nat) (a_taken : Nat) (f_undos : Int32) (f_keptMany : Int32) (f_sightMany : Int32) (f_size : Int32) (f_at : Int32) (f_value : Int32) (f_above : Int64) (f_below : Int64) (f_paid : Int32) (f_post : Nat → Int32) (y_1 : Int32) (y_2 : Int32) {z : Int32 × (Nat → Int32)} (hR : ∀ (lv : List (Nat × Value)) (pc : Nat), (z.1 = 0 ∨ z.1 = 1) → decode cX9_firstRow pc = .ok (.ireturn, 1) → gg cI X 4 0 0 [oX9 h a_post a_read a_now a_aside a_past f_undos a_kept f_keptMany a_sights f_sightMany a_text f_size f_at f_value a_weights a_tried f_above f_below f_paid a_row a_who a_order a_bestOrder a_costs a_taken, aI cI a_post 52 f_post, aI cI a_row 3 z.2] lv pc [.int z.1]) : ∀ (n : Nat) (y_3 : Int32) (f_row : Nat → Int32), LX9_firstRow_31 y_1 y_2 f_post n y_3 f_row = some z → gg cI X 4 0 0 [oX9 h a_post a_read a_now a_aside a_past f_undos a_kept f_keptMany a_sights f_sightMany a_text f_size f_at f_value a_weights a_tried f_above f_below f_paid a_row a_who a_order a_bestOrder a_costs a_taken, aI cI a_post 52 f_post, aI cI a_row 3 f_row] [(0, .ref h), (1, .int y_1), (2, .int y_2), (3, .int y_3)] 31 [] := by
  intro n
  induction n with
  | zero =>
    intro y_3 f_row hs
    exact nn_ok hs
  | succ n ih =>
    intro y_3 f_row hs
    rw [LX9_firstRow_31] at hs
    refine g_iload_n (pl := 3) C dX9_firstRow_31 rfl rfl ?_
    refine g_iload_n (pl := 1) C dX9_firstRow_32 rfl rfl ?_
    refine g_icmp_ge (tgt := 49) C dX9_firstRow_33 (by decide) (fun c1 => ?_) (fun c1 => ?_)
    · replace hs := vi_t hs c1
      refine g_iload_n (pl := 1) C dX9_firstRow_49 rfl rfl ?_
      refine g_if_eq (tgt := 61) C dX9_firstRow_50 (by decide) (fun c2 => ?_) (fun c2 => ?_)
      · replace hs := vi_t hs c2
        refine g_iconst (v := (nI 1)) C dX9_firstRow_61 rfl ?_
        refine g_goto (tgt := 66) C dX9_firstRow_62 (by decide) ?_
        cases hs
        exact hR _ _ (Or.inr rfl) dX9_firstRow_66
      · replace hs := vi_f hs c2
        refine g_iload_n (pl := 2) C dX9_firstRow_53 rfl rfl ?_
        refine g_aload_n (pl := 0) C dX9_firstRow_54 rfl rfl ?_
        obtain ⟨z3, e_z3, hs⟩ := vb_ok hs
        refine g_callV (ws' := [oX9 h a_post a_read a_now a_aside a_past f_undos a_kept f_keptMany a_sights f_sightMany a_text f_size f_at f_value a_weights a_tried f_above f_below f_paid a_row a_who a_order a_bestOrder a_costs a_taken, aI cI a_post 52 f_post, aI cI a_row 3 f_row]) (rest := [.int y_2]) (st' := [.int z3, .int y_2]) C mX9_152 q5_53 [] (fun l D => cX9_signs_ct l D cI h a_post a_read a_now a_aside a_past a_kept a_sights a_text a_weights a_tried a_row a_who a_order a_bestOrder a_costs a_taken f_undos f_keptMany f_sightMany f_size f_at f_value f_above f_below f_paid f_post e_z3) ⟨⟨rfl, rfl⟩, Nat.le_of_ble_eq_true rfl, Nat.le_of_ble_eq_true rfl⟩ 0 rfl rfl rfl [0, 1] rfl rfl rfl rfl rfl (Nat.le_of_ble_eq_true rfl) (Nat.zero_le _) (Nat.zero_le _) rfl dX9_firstRow_55 ?_
        refine g_icmp_ge (tgt := 65) C dX9_firstRow_58 (by decide) (fun c4 => ?_) (fun c4 => ?_)
        · replace hs := vi_t hs c4
          refine g_iconst (v := (nI 0)) C dX9_firstRow_65 rfl ?_
          cases hs
          exact hR _ _ (Or.inl rfl) dX9_firstRow_66
        · replace hs := vi_f hs c4
          refine g_iconst (v := (nI 1)) C dX9_firstRow_61 rfl ?_
          refine g_goto (tgt := 66) C dX9_firstRow_62 (by decide) ?_
          cases hs
          exact hR _ _ (Or.inr rfl) dX9_firstRow_66
    · replace hs := vi_f hs c1
      refine g_aload_n (pl := 0) C dX9_firstRow_36 rfl rfl ?_
      refine g_get C fX9_40 0 rfl rfl dX9_firstRow_37 ?_
      refine g_iload_n (pl := 3) C dX9_firstRow_40 rfl rfl ?_
      refine g_iload_n (pl := 2) C dX9_firstRow_41 rfl rfl ?_
      obtain ⟨b5, hs⟩ := vg_ok hs
      obtain ⟨u6, e_u6, hs⟩ := vlet_ex hs
      refine g_iast (ws' := [oX9 h a_post a_read a_now a_aside a_past f_undos a_kept f_keptMany a_sights f_sightMany a_text f_size f_at f_value a_weights a_tried f_above f_below f_paid a_row a_who a_order a_bestOrder a_costs a_taken, aI cI a_post 52 f_post, aI cI a_row 3 u6]) C 2 rfl (vin_ok b5) (by rw [e_u6]; rfl) dX9_firstRow_42 ?_
      obtain ⟨y7, e_y7, hs⟩ := vlet_ex hs
      refine g_iinc (pl := 3) (lv' := [(3, .int y7), (0, .ref h), (1, .int y_1), (2, .int y_2)]) C dX9_firstRow_43 rfl e_y7.symm (by decide) rfl ?_
      refine g_goto (tgt := 31) C dX9_firstRow_46 (by decide) ?_
      refine g_sub [1, 2, 3, 0] rfl ?_
      exact ih y7 u6 hs
set_option maxHeartbeats 4000000 in
set_option maxRecDepth 100000 in
theorem LX9_firstRow_2_w {cI : ClassId} {X : xT} (C : cx cI X 4 cX9_firstRow RX9 rmX9_firstRow) (h : Nat) (a_post : Nat) (a_read : Nat) (a_now : Nat) (a_aside : Nat) (a_past : Nat) (a_kept : Nat) (a_sights : Nat) (a_text : Nat) (a_weights : Nat) (a_tried : Nat) (a_row : Nat) (a_who : Nat) (a_order : Nat) (a_bestOrder : Nat) (a_costs : Nat) (a_taken : Nat) (f_undos : Int32) (f_keptMany : Int32) (f_sightMany : Int32) (f_size : Int32) (f_at : Int32) (f_value : Int32) (f_above : Int64) (f_below : Int64) (f_paid : Int32) (f_post : Nat → Int32) (f_row : Nat → Int32) (y_1 : Int32) {z : Int32 × (Nat → Int32)} (hR : ∀ (lv : List (Nat × Value)) (pc : Nat), (z.1 = 0 ∨ z.1 = 1) → decode cX9_firstRow pc = .ok (.ireturn, 1) → gg cI X 4 0 0 [oX9 h a_post a_read a_now a_aside a_past f_undos a_kept f_keptMany a_sights f_sightMany a_text f_size f_at f_value a_weights a_tried f_above f_below f_paid a_row a_who a_order a_bestOrder a_costs a_taken, aI cI a_post 52 f_post, aI cI a_row 3 z.2] lv pc [.int z.1]) : ∀ (n : Nat) (y_2 : Int32), LX9_firstRow_2 y_1 f_post f_row n y_2 = some z → gg cI X 4 0 0 [oX9 h a_post a_read a_now a_aside a_past f_undos a_kept f_keptMany a_sights f_sightMany a_text f_size f_at f_value a_weights a_tried f_above f_below f_paid a_row a_who a_order a_bestOrder a_costs a_taken, aI cI a_post 52 f_post, aI cI a_row 3 f_row] [(0, .ref h), (1, .int y_1), (2, .int y_2)] 2 [] := by
  intro n
  induction n with
  | zero =>
    intro y_2 hs
    exact nn_ok hs
  | succ n ih =>
    intro y_2 hs
    rw [LX9_firstRow_2] at hs
    refine g_iload_n (pl := 2) C dX9_firstRow_2 rfl rfl ?_
    refine g_aload_n (pl := 0) C dX9_firstRow_3 rfl rfl ?_
    obtain ⟨z8, e_z8, hs⟩ := vb_ok hs
    refine g_callV (ws' := [oX9 h a_post a_read a_now a_aside a_past f_undos a_kept f_keptMany a_sights f_sightMany a_text f_size f_at f_value a_weights a_tried f_above f_below f_paid a_row a_who a_order a_bestOrder a_costs a_taken, aI cI a_post 52 f_post, aI cI a_row 3 f_row]) (rest := [.int y_2]) (st' := [.int z8, .int y_2]) C mX9_152 q5_53 [] (fun l D => cX9_signs_ct l D cI h a_post a_read a_now a_aside a_past a_kept a_sights a_text a_weights a_tried a_row a_who a_order a_bestOrder a_costs a_taken f_undos f_keptMany f_sightMany f_size f_at f_value f_above f_below f_paid f_post e_z8) ⟨⟨rfl, rfl⟩, Nat.le_of_ble_eq_true rfl, Nat.le_of_ble_eq_true rfl⟩ 0 rfl rfl rfl [0, 1] rfl rfl rfl rfl rfl (Nat.le_of_ble_eq_true rfl) (Nat.zero_le _) (Nat.zero_le _) rfl dX9_firstRow_4 ?_
    refine g_icmp_ge (tgt := 29) C dX9_firstRow_7 (by decide) (fun c9 => ?_) (fun c9 => ?_)
    · replace hs := vi_t hs c9
      refine g_iconst (v := (nI 0)) C dX9_firstRow_29 rfl ?_
      refine g_istore_n (lv' := [(3, .int (nI 0)), (0, .ref h), (1, .int y_1), (2, .int y_2)]) C dX9_firstRow_30 rfl (by decide) rfl ?_
      refine g_sub [1, 2, 3, 0] rfl ?_
      exact LX9_firstRow_31_w C h a_post a_read a_now a_aside a_past a_kept a_sights a_text a_weights a_tried a_row a_who a_order a_bestOrder a_costs a_taken f_undos f_keptMany f_sightMany f_size f_at f_value f_above f_below f_paid f_post y_1 y_2 hR _ (nI 0) f_row hs
    · replace hs := vi_f hs c9
      refine g_aload_n (pl := 0) C dX9_firstRow_10 rfl rfl ?_
      refine g_get C fX9_7 0 rfl rfl dX9_firstRow_11 ?_
      refine g_iconst (v := (nI 3)) C dX9_firstRow_14 rfl ?_
      refine g_iald C 1 rfl (vin_ok rfl) dX9_firstRow_15 ?_
      refine g_iload_n (pl := 2) C dX9_firstRow_16 rfl rfl ?_
      obtain ⟨z10, e_z10, hs⟩ := vb_ok hs
      refine g_callS (ws' := [oX9 h a_post a_read a_now a_aside a_past f_undos a_kept f_keptMany a_sights f_sightMany a_text f_size f_at f_value a_weights a_tried f_above f_below f_paid a_row a_who a_order a_bestOrder a_costs a_taken, aI cI a_post 52 f_post, aI cI a_row 3 f_row]) (rest := []) (st' := [.int z10]) C mX9_120 q5_6 [.int (f_post (Int32.toNatClampNeg (nI 3))), .int y_2] (fun l D => cX9_has_ct l D cI (f_post (Int32.toNatClampNeg (nI 3))) y_2 e_z10) ⟨⟨rfl, rfl⟩, Nat.le_of_ble_eq_true rfl, Nat.le_of_ble_eq_true rfl⟩ rfl [] rfl rfl rfl rfl rfl (Nat.le_of_ble_eq_true rfl) (Nat.zero_le _) (Nat.zero_le _) rfl dX9_firstRow_17 ?_
      refine g_if_eq (tgt := 29) C dX9_firstRow_20 (by decide) (fun c11 => ?_) (fun c11 => ?_)
      · replace hs := vi_t hs c11
        refine g_iconst (v := (nI 0)) C dX9_firstRow_29 rfl ?_
        refine g_istore_n (lv' := [(3, .int (nI 0)), (0, .ref h), (1, .int y_1), (2, .int y_2)]) C dX9_firstRow_30 rfl (by decide) rfl ?_
        refine g_sub [1, 2, 3, 0] rfl ?_
        exact LX9_firstRow_31_w C h a_post a_read a_now a_aside a_past a_kept a_sights a_text a_weights a_tried a_row a_who a_order a_bestOrder a_costs a_taken f_undos f_keptMany f_sightMany f_size f_at f_value f_above f_below f_paid f_post y_1 y_2 hR _ (nI 0) f_row hs
      · replace hs := vi_f hs c11
        obtain ⟨y12, e_y12, hs⟩ := vlet_ex hs
        refine g_iinc (pl := 2) (lv' := [(2, .int y12), (0, .ref h), (1, .int y_1)]) C dX9_firstRow_23 rfl e_y12.symm (by decide) rfl ?_
        refine g_goto (tgt := 2) C dX9_firstRow_26 (by decide) ?_
        refine g_sub [1, 2, 0] rfl ?_
        exact ih y12 hs
set_option maxHeartbeats 4000000 in
set_option maxRecDepth 100000 in
theorem cX9_firstRow_ct (l : Launch) (D : va_G) (cI : ClassId) (h : Nat) (a_post : Nat) (a_read : Nat) (a_now : Nat) (a_aside : Nat) (a_past : Nat) (a_kept : Nat) (a_sights : Nat) (a_text : Nat) (a_weights : Nat) (a_tried : Nat) (a_row : Nat) (a_who : Nat) (a_order : Nat) (a_bestOrder : Nat) (a_costs : Nat) (a_taken : Nat) (f_undos : Int32) (f_keptMany : Int32) (f_sightMany : Int32) (f_size : Int32) (f_at : Int32) (f_value : Int32) (f_above : Int64) (f_below : Int64) (f_paid : Int32) (f_post : Nat → Int32) (f_row : Nat → Int32) (x1 : Int32) {z : Int32 × (Nat → Int32)} (hs : sX9_firstRow f_post f_row x1 = some z) : ct l yX9_firstRow (.code yX9_firstRow cX9_firstRow 4 (some .boolean) :: gtb) rmX9_firstRow D cI [.ref h, .int x1] [oX9 h a_post a_read a_now a_aside a_past f_undos a_kept f_keptMany a_sights f_sightMany a_text f_size f_at f_value a_weights a_tried f_above f_below f_paid a_row a_who a_order a_bestOrder a_costs a_taken, aI cI a_post 52 f_post, aI cI a_row 3 f_row] (some (.int z.1)) [oX9 h a_post a_read a_now a_aside a_past f_undos a_kept f_keptMany a_sights f_sightMany a_text f_size f_at f_value a_weights a_tried f_above f_below f_paid a_row a_who a_order a_bestOrder a_costs a_taken, aI cI a_post 52 f_post, aI cI a_row 3 z.2] := by
  refine ct_ofZ (own := RX9) (by decide +kernel) rfl (Nat.le_of_ble_eq_true rfl) (fun X C hD hR => ?_)
  unfold sX9_firstRow at hs
  show gg cI X 4 0 0 [oX9 h a_post a_read a_now a_aside a_past f_undos a_kept f_keptMany a_sights f_sightMany a_text f_size f_at f_value a_weights a_tried f_above f_below f_paid a_row a_who a_order a_bestOrder a_costs a_taken, aI cI a_post 52 f_post, aI cI a_row 3 f_row] [(0, .ref h), (1, .int x1)] 0 []
  refine g_iconst (v := (nI 0)) C dX9_firstRow_0 rfl ?_
  refine g_istore_n (lv' := [(2, .int (nI 0)), (0, .ref h), (1, .int x1)]) C dX9_firstRow_1 rfl (by decide) rfl ?_
  refine g_sub [1, 2, 0] rfl ?_
  exact LX9_firstRow_2_w C h a_post a_read a_now a_aside a_past a_kept a_sights a_text a_weights a_tried a_row a_who a_order a_bestOrder a_costs a_taken f_undos f_keptMany f_sightMany f_size f_at f_value f_above f_below f_paid f_post f_row x1 hR _ (nI 0) hs
def LX9_fewestFor_38 (y_1 : Int32) (y_2 : Int32) (y_3 : Int32) (f_post : Nat → Int32) (f_weights : Nat → Int32) (K73 : (Nat → Int32) → (Nat → Int32) → Option (Int32 × (Nat → Int32) × (Nat → Int32) × (Nat → Int32))) : Nat → Int32 → (Nat → Int32) → (Nat → Int32) → Option (Int32 × (Nat → Int32) × (Nat → Int32) × (Nat → Int32))
  | 0, _, _, _ => none
  | n + 1, y_4, f_tried, f_row =>
    vi (y_4 = 0) inferInstance (
      K73 f_tried f_row) (
      vg (vin ((nI 37) + y_1) 52) (
      vb (sX9_wouldBe f_post f_weights f_tried f_row (f_post (Int32.toNatClampNeg ((nI 37) + y_1))) y_2 y_3) fun z3 =>
      vi (z3.1 = 0) inferInstance (
        vb (sX9_nextRow f_post f_row y_3) fun z5 =>
        LX9_fewestFor_38 y_1 y_2 y_3 f_post f_weights K73 n z5.1 z3.2 z5.2) (
        some (y_3, f_weights, z3.2, f_row))))
def LX9_fewestFor_11 (y_1 : Int32) (y_2 : Int32) (f_post : Nat → Int32) (f_now : Nat → Int32) (f_weights : Nat → Int32) : Nat → Int32 → (Nat → Int32) → (Nat → Int32) → Option (Int32 × (Nat → Int32) × (Nat → Int32) × (Nat → Int32))
  | 0, _, _, _ => none
  | n + 1, y_3, f_tried, f_row =>
    vi ((nI 4) ≤ y_3) inferInstance (
      some ((-4), f_weights, f_tried, f_row)) (
      vg (vin ((nI 10) + y_1) 50) (
      vi ((nI 5) < (y_3 + (f_now (Int32.toNatClampNeg ((nI 10) + y_1))))) inferInstance (
        some ((-4), f_weights, f_tried, f_row)) (
        vb (sX9_firstRow f_post f_row y_3) fun z9 =>
        LX9_fewestFor_38 y_1 y_2 y_3 f_post f_weights (fun (v10 : Nat → Int32) (v11 : Nat → Int32) =>
            vlet (y_3 + (nI 1)) fun y12 =>
            LX9_fewestFor_11 y_1 y_2 f_post f_now f_weights n y12 v10 v11) vF z9.1 f_tried z9.2)))
def sX9_fewestFor (f_post : Nat → Int32) (f_now : Nat → Int32) (f_weights : Nat → Int32) (f_tried : Nat → Int32) (f_row : Nat → Int32) (x1 : Int32) (x2 : Int32) : Option (Int32 × (Nat → Int32) × (Nat → Int32) × (Nat → Int32)) :=
  vb (sX9_weighActor f_post f_weights f_now x1) fun z13 =>
  LX9_fewestFor_11 x1 x2 f_post f_now z13 vF (nI 0) f_tried f_row
abbrev rmX9_fewestFor : Room := { frames := 5, cells := 0, slots := 0, locals := 123 }
set_option maxHeartbeats 4000000 in
set_option maxRecDepth 100000 in
theorem LX9_fewestFor_38_w {cI : ClassId} {X : xT} (C : cx cI X 5 cX9_fewestFor RX9 rmX9_fewestFor) (h : Nat) (a_post : Nat) (a_read : Nat) (a_now : Nat) (a_aside : Nat) (a_past : Nat) (a_kept : Nat) (a_sights : Nat) (a_text : Nat) (a_weights : Nat) (a_tried : Nat) (a_row : Nat) (a_who : Nat) (a_order : Nat) (a_bestOrder : Nat) (a_costs : Nat) (a_taken : Nat) (f_undos : Int32) (f_keptMany : Int32) (f_sightMany : Int32) (f_size : Int32) (f_at : Int32) (f_value : Int32) (f_above : Int64) (f_below : Int64) (f_paid : Int32) (f_post : Nat → Int32) (f_now : Nat → Int32) (f_weights : Nat → Int32) (y_1 : Int32) (y_2 : Int32) (y_3 : Int32) {z : Int32 × (Nat → Int32) × (Nat → Int32) × (Nat → Int32)} (hR : ∀ (lv : List (Nat × Value)) (pc : Nat), decode cX9_fewestFor pc = .ok (.ireturn, 1) → gg cI X 5 0 0 [oX9 h a_post a_read a_now a_aside a_past f_undos a_kept f_keptMany a_sights f_sightMany a_text f_size f_at f_value a_weights a_tried f_above f_below f_paid a_row a_who a_order a_bestOrder a_costs a_taken, aI cI a_post 52 f_post, aI cI a_now 50 f_now, aI cI a_weights 8 z.2.1, aI cI a_tried 8 z.2.2.1, aI cI a_row 3 z.2.2.2] lv pc [.int z.1]) {K73 : (Nat → Int32) → (Nat → Int32) → Option (Int32 × (Nat → Int32) × (Nat → Int32) × (Nat → Int32))} (hK73 : ∀ (kf_tried : Nat → Int32) (kf_row : Nat → Int32), K73 kf_tried kf_row = some z → gg cI X 5 0 0 [oX9 h a_post a_read a_now a_aside a_past f_undos a_kept f_keptMany a_sights f_sightMany a_text f_size f_at f_value a_weights a_tried f_above f_below f_paid a_row a_who a_order a_bestOrder a_costs a_taken, aI cI a_post 52 f_post, aI cI a_now 50 f_now, aI cI a_weights 8 f_weights, aI cI a_tried 8 kf_tried, aI cI a_row 3 kf_row] [(0, .ref h), (1, .int y_1), (2, .int y_2), (3, .int y_3)] 73 []) : ∀ (n : Nat) (y_4 : Int32) (f_tried : Nat → Int32) (f_row : Nat → Int32), LX9_fewestFor_38 y_1 y_2 y_3 f_post f_weights K73 n y_4 f_tried f_row = some z → gg cI X 5 0 0 [oX9 h a_post a_read a_now a_aside a_past f_undos a_kept f_keptMany a_sights f_sightMany a_text f_size f_at f_value a_weights a_tried f_above f_below f_paid a_row a_who a_order a_bestOrder a_costs a_taken, aI cI a_post 52 f_post, aI cI a_now 50 f_now, aI cI a_weights 8 f_weights, aI cI a_tried 8 f_tried, aI cI a_row 3 f_row] [(0, .ref h), (1, .int y_1), (2, .int y_2), (3, .int y_3), (4, .int y_4)] 38 [] := by
  intro n
  induction n with
  | zero =>
    intro y_4 f_tried f_row hs
    exact nn_ok hs
  | succ n ih =>
    intro y_4 f_tried f_row hs
    rw [LX9_fewestFor_38] at hs
    refine g_iload (pl := 4) C dX9_fewestFor_38 rfl ?_
    refine g_if_eq (tgt := 73) C dX9_fewestFor_40 (by decide) (fun c1 => ?_) (fun c1 => ?_)
    · replace hs := vi_t hs c1
      refine g_sub [0, 1, 2, 3] rfl ?_
      exact hK73 f_tried f_row hs
    · replace hs := vi_f hs c1
      refine g_aload_n (pl := 0) C dX9_fewestFor_43 rfl rfl ?_
      refine g_aload_n (pl := 0) C dX9_fewestFor_44 rfl rfl ?_
      refine g_get C fX9_7 0 rfl rfl dX9_fewestFor_45 ?_
      refine g_bipush (v := (nI 37)) C dX9_fewestFor_48 rfl ?_
      refine g_iload_n (pl := 1) C dX9_fewestFor_50 rfl rfl ?_
      refine g_iadd C dX9_fewestFor_51 ?_
      obtain ⟨b2, hs⟩ := vg_ok hs
      refine g_iald C 1 rfl (vin_ok b2) dX9_fewestFor_52 ?_
      refine g_iload_n (pl := 2) C dX9_fewestFor_53 rfl rfl ?_
      refine g_iload_n (pl := 3) C dX9_fewestFor_54 rfl rfl ?_
      obtain ⟨z3, e_z3, hs⟩ := vb_ok hs
      refine g_callV (ws' := [oX9 h a_post a_read a_now a_aside a_past f_undos a_kept f_keptMany a_sights f_sightMany a_text f_size f_at f_value a_weights a_tried f_above f_below f_paid a_row a_who a_order a_bestOrder a_costs a_taken, aI cI a_post 52 f_post, aI cI a_now 50 f_now, aI cI a_weights 8 f_weights, aI cI a_tried 8 z3.2, aI cI a_row 3 f_row]) (rest := []) (st' := [.int z3.1]) C mX9_239 q5_171 [.int (f_post (Int32.toNatClampNeg ((nI 37) + y_1))), .int y_2, .int y_3] (fun l D => cX9_wouldBe_ct l D cI h a_post a_read a_now a_aside a_past a_kept a_sights a_text a_weights a_tried a_row a_who a_order a_bestOrder a_costs a_taken f_undos f_keptMany f_sightMany f_size f_at f_value f_above f_below f_paid f_post f_weights f_tried f_row (f_post (Int32.toNatClampNeg ((nI 37) + y_1))) y_2 y_3 e_z3) ⟨⟨rfl, rfl⟩, Nat.le_of_ble_eq_true rfl, Nat.le_of_ble_eq_true rfl⟩ 0 rfl rfl rfl [0, 1, 3, 4, 5] rfl rfl rfl rfl rfl (Nat.le_of_ble_eq_true rfl) (Nat.zero_le _) (Nat.zero_le _) rfl dX9_fewestFor_55 ?_
      refine g_if_eq (tgt := 63) C dX9_fewestFor_58 (by decide) (fun c4 => ?_) (fun c4 => ?_)
      · replace hs := vi_t hs c4
        refine g_aload_n (pl := 0) C dX9_fewestFor_63 rfl rfl ?_
        refine g_iload_n (pl := 3) C dX9_fewestFor_64 rfl rfl ?_
        obtain ⟨z5, e_z5, hs⟩ := vb_ok hs
        refine g_callV (ws' := [oX9 h a_post a_read a_now a_aside a_past f_undos a_kept f_keptMany a_sights f_sightMany a_text f_size f_at f_value a_weights a_tried f_above f_below f_paid a_row a_who a_order a_bestOrder a_costs a_taken, aI cI a_post 52 f_post, aI cI a_now 50 f_now, aI cI a_weights 8 f_weights, aI cI a_tried 8 z3.2, aI cI a_row 3 z5.2]) (rest := []) (st' := [.int z5.1]) C mX9_243 q5_175 [.int y_3] (fun l D => cX9_nextRow_ct l D cI h a_post a_read a_now a_aside a_past a_kept a_sights a_text a_weights a_tried a_row a_who a_order a_bestOrder a_costs a_taken f_undos f_keptMany f_sightMany f_size f_at f_value f_above f_below f_paid f_post f_row y_3 e_z5) ⟨⟨rfl, rfl⟩, Nat.le_of_ble_eq_true rfl, Nat.le_of_ble_eq_true rfl⟩ 0 rfl rfl rfl [0, 1, 5] rfl rfl rfl rfl rfl (Nat.le_of_ble_eq_true rfl) (Nat.zero_le _) (Nat.zero_le _) rfl dX9_fewestFor_65 ?_
        refine g_istore (lv' := [(4, .int z5.1), (0, .ref h), (1, .int y_1), (2, .int y_2), (3, .int y_3)]) C dX9_fewestFor_68 (by decide) rfl ?_
        refine g_goto (tgt := 38) C dX9_fewestFor_70 (by decide) ?_
        refine g_sub [1, 2, 3, 4, 0] rfl ?_
        exact ih z5.1 z3.2 z5.2 hs
      · replace hs := vi_f hs c4
        refine g_iload_n (pl := 3) C dX9_fewestFor_61 rfl rfl ?_
        cases hs
        exact hR _ _ dX9_fewestFor_62
set_option maxHeartbeats 4000000 in
set_option maxRecDepth 100000 in
theorem LX9_fewestFor_11_w {cI : ClassId} {X : xT} (C : cx cI X 5 cX9_fewestFor RX9 rmX9_fewestFor) (h : Nat) (a_post : Nat) (a_read : Nat) (a_now : Nat) (a_aside : Nat) (a_past : Nat) (a_kept : Nat) (a_sights : Nat) (a_text : Nat) (a_weights : Nat) (a_tried : Nat) (a_row : Nat) (a_who : Nat) (a_order : Nat) (a_bestOrder : Nat) (a_costs : Nat) (a_taken : Nat) (f_undos : Int32) (f_keptMany : Int32) (f_sightMany : Int32) (f_size : Int32) (f_at : Int32) (f_value : Int32) (f_above : Int64) (f_below : Int64) (f_paid : Int32) (f_post : Nat → Int32) (f_now : Nat → Int32) (f_weights : Nat → Int32) (y_1 : Int32) (y_2 : Int32) {z : Int32 × (Nat → Int32) × (Nat → Int32) × (Nat → Int32)} (hR : ∀ (lv : List (Nat × Value)) (pc : Nat), decode cX9_fewestFor pc = .ok (.ireturn, 1) → gg cI X 5 0 0 [oX9 h a_post a_read a_now a_aside a_past f_undos a_kept f_keptMany a_sights f_sightMany a_text f_size f_at f_value a_weights a_tried f_above f_below f_paid a_row a_who a_order a_bestOrder a_costs a_taken, aI cI a_post 52 f_post, aI cI a_now 50 f_now, aI cI a_weights 8 z.2.1, aI cI a_tried 8 z.2.2.1, aI cI a_row 3 z.2.2.2] lv pc [.int z.1]) : ∀ (n : Nat) (y_3 : Int32) (f_tried : Nat → Int32) (f_row : Nat → Int32), LX9_fewestFor_11 y_1 y_2 f_post f_now f_weights n y_3 f_tried f_row = some z → gg cI X 5 0 0 [oX9 h a_post a_read a_now a_aside a_past f_undos a_kept f_keptMany a_sights f_sightMany a_text f_size f_at f_value a_weights a_tried f_above f_below f_paid a_row a_who a_order a_bestOrder a_costs a_taken, aI cI a_post 52 f_post, aI cI a_now 50 f_now, aI cI a_weights 8 f_weights, aI cI a_tried 8 f_tried, aI cI a_row 3 f_row] [(0, .ref h), (1, .int y_1), (2, .int y_2), (3, .int y_3)] 11 [] := by
  intro n
  induction n with
  | zero =>
    intro y_3 f_tried f_row hs
    exact nn_ok hs
  | succ n ih =>
    intro y_3 f_tried f_row hs
    rw [LX9_fewestFor_11] at hs
    refine g_iload_n (pl := 3) C dX9_fewestFor_11 rfl rfl ?_
    refine g_iconst (v := (nI 4)) C dX9_fewestFor_12 rfl ?_
    refine g_icmp_ge (tgt := 79) C dX9_fewestFor_13 (by decide) (fun c6 => ?_) (fun c6 => ?_)
    · replace hs := vi_t hs c6
      refine g_bipush (v := (-4)) C dX9_fewestFor_79 rfl ?_
      cases hs
      exact hR _ _ dX9_fewestFor_81
    · replace hs := vi_f hs c6
      refine g_iload_n (pl := 3) C dX9_fewestFor_16 rfl rfl ?_
      refine g_aload_n (pl := 0) C dX9_fewestFor_17 rfl rfl ?_
      refine g_get C fX9_16 0 rfl rfl dX9_fewestFor_18 ?_
      refine g_bipush (v := (nI 10)) C dX9_fewestFor_21 rfl ?_
      refine g_iload_n (pl := 1) C dX9_fewestFor_23 rfl rfl ?_
      refine g_iadd C dX9_fewestFor_24 ?_
      obtain ⟨b7, hs⟩ := vg_ok hs
      refine g_iald C 2 rfl (vin_ok b7) dX9_fewestFor_25 ?_
      refine g_iadd C dX9_fewestFor_26 ?_
      refine g_iconst (v := (nI 5)) C dX9_fewestFor_27 rfl ?_
      refine g_icmp_gt (tgt := 79) C dX9_fewestFor_28 (by decide) (fun c8 => ?_) (fun c8 => ?_)
      · replace hs := vi_t hs c8
        refine g_bipush (v := (-4)) C dX9_fewestFor_79 rfl ?_
        cases hs
        exact hR _ _ dX9_fewestFor_81
      · replace hs := vi_f hs c8
        refine g_aload_n (pl := 0) C dX9_fewestFor_31 rfl rfl ?_
        refine g_iload_n (pl := 3) C dX9_fewestFor_32 rfl rfl ?_
        obtain ⟨z9, e_z9, hs⟩ := vb_ok hs
        refine g_callV (ws' := [oX9 h a_post a_read a_now a_aside a_past f_undos a_kept f_keptMany a_sights f_sightMany a_text f_size f_at f_value a_weights a_tried f_above f_below f_paid a_row a_who a_order a_bestOrder a_costs a_taken, aI cI a_post 52 f_post, aI cI a_now 50 f_now, aI cI a_weights 8 f_weights, aI cI a_tried 8 f_tried, aI cI a_row 3 z9.2]) (rest := []) (st' := [.int z9.1]) C mX9_236 q5_167 [.int y_3] (fun l D => cX9_firstRow_ct l D cI h a_post a_read a_now a_aside a_past a_kept a_sights a_text a_weights a_tried a_row a_who a_order a_bestOrder a_costs a_taken f_undos f_keptMany f_sightMany f_size f_at f_value f_above f_below f_paid f_post f_row y_3 e_z9) ⟨⟨rfl, rfl⟩, Nat.le_of_ble_eq_true rfl, Nat.le_of_ble_eq_true rfl⟩ 0 rfl rfl rfl [0, 1, 5] rfl rfl rfl rfl rfl (Nat.le_of_ble_eq_true rfl) (Nat.zero_le _) (Nat.zero_le _) rfl dX9_fewestFor_33 ?_
        refine g_istore (lv' := [(4, .int z9.1), (0, .ref h), (1, .int y_1), (2, .int y_2), (3, .int y_3)]) C dX9_fewestFor_36 (by decide) rfl ?_
        refine g_sub [1, 2, 3, 4, 0] rfl ?_
        refine LX9_fewestFor_38_w C h a_post a_read a_now a_aside a_past a_kept a_sights a_text a_weights a_tried a_row a_who a_order a_bestOrder a_costs a_taken f_undos f_keptMany f_sightMany f_size f_at f_value f_above f_below f_paid f_post f_now f_weights y_1 y_2 y_3 hR ?_ _ z9.1 f_tried z9.2 hs
        · intro v10 v11 hs
          obtain ⟨y12, e_y12, hs⟩ := vlet_ex hs
          refine g_iinc (pl := 3) (lv' := [(3, .int y12), (0, .ref h), (1, .int y_1), (2, .int y_2)]) C dX9_fewestFor_73 rfl e_y12.symm (by decide) rfl ?_
          refine g_goto (tgt := 11) C dX9_fewestFor_76 (by decide) ?_
          refine g_sub [1, 2, 3, 0] rfl ?_
          exact ih y12 v10 v11 hs
set_option maxHeartbeats 4000000 in
set_option maxRecDepth 100000 in
theorem cX9_fewestFor_ct (l : Launch) (D : va_G) (cI : ClassId) (h : Nat) (a_post : Nat) (a_read : Nat) (a_now : Nat) (a_aside : Nat) (a_past : Nat) (a_kept : Nat) (a_sights : Nat) (a_text : Nat) (a_weights : Nat) (a_tried : Nat) (a_row : Nat) (a_who : Nat) (a_order : Nat) (a_bestOrder : Nat) (a_costs : Nat) (a_taken : Nat) (f_undos : Int32) (f_keptMany : Int32) (f_sightMany : Int32) (f_size : Int32) (f_at : Int32) (f_value : Int32) (f_above : Int64) (f_below : Int64) (f_paid : Int32) (f_post : Nat → Int32) (f_now : Nat → Int32) (f_weights : Nat → Int32) (f_tried : Nat → Int32) (f_row : Nat → Int32) (x1 : Int32) (x2 : Int32) {z : Int32 × (Nat → Int32) × (Nat → Int32) × (Nat → Int32)} (hs : sX9_fewestFor f_post f_now f_weights f_tried f_row x1 x2 = some z) : ct l yX9_fewestFor (.code yX9_fewestFor cX9_fewestFor 5 (some .int) :: gtb) rmX9_fewestFor D cI [.ref h, .int x1, .int x2] [oX9 h a_post a_read a_now a_aside a_past f_undos a_kept f_keptMany a_sights f_sightMany a_text f_size f_at f_value a_weights a_tried f_above f_below f_paid a_row a_who a_order a_bestOrder a_costs a_taken, aI cI a_post 52 f_post, aI cI a_now 50 f_now, aI cI a_weights 8 f_weights, aI cI a_tried 8 f_tried, aI cI a_row 3 f_row] (some (.int z.1)) [oX9 h a_post a_read a_now a_aside a_past f_undos a_kept f_keptMany a_sights f_sightMany a_text f_size f_at f_value a_weights a_tried f_above f_below f_paid a_row a_who a_order a_bestOrder a_costs a_taken, aI cI a_post 52 f_post, aI cI a_now 50 f_now, aI cI a_weights 8 z.2.1, aI cI a_tried 8 z.2.2.1, aI cI a_row 3 z.2.2.2] := by
  refine ct_ofI (own := RX9) (by decide +kernel) rfl (Nat.le_of_ble_eq_true rfl) (fun X C hD hR => ?_)
  unfold sX9_fewestFor at hs
  show gg cI X 5 0 0 [oX9 h a_post a_read a_now a_aside a_past f_undos a_kept f_keptMany a_sights f_sightMany a_text f_size f_at f_value a_weights a_tried f_above f_below f_paid a_row a_who a_order a_bestOrder a_costs a_taken, aI cI a_post 52 f_post, aI cI a_now 50 f_now, aI cI a_weights 8 f_weights, aI cI a_tried 8 f_tried, aI cI a_row 3 f_row] [(0, .ref h), (1, .int x1), (2, .int x2)] 0 []
  refine g_aload_n (pl := 0) C dX9_fewestFor_0 rfl rfl ?_
  refine g_aload_n (pl := 0) C dX9_fewestFor_1 rfl rfl ?_
  refine g_get C fX9_16 0 rfl rfl dX9_fewestFor_2 ?_
  refine g_iload_n (pl := 1) C dX9_fewestFor_5 rfl rfl ?_
  obtain ⟨z13, e_z13, hs⟩ := vb_ok hs
  refine g_callV (ws' := [oX9 h a_post a_read a_now a_aside a_past f_undos a_kept f_keptMany a_sights f_sightMany a_text f_size f_at f_value a_weights a_tried f_above f_below f_paid a_row a_who a_order a_bestOrder a_costs a_taken, aI cI a_post 52 f_post, aI cI a_now 50 f_now, aI cI a_weights 8 z13, aI cI a_tried 8 f_tried, aI cI a_row 3 f_row]) (rest := []) (st' := []) C mX9_183 q5_73 [.ref a_now, .int x1] (fun l D => cX9_weighActor_ct l D cI h a_post a_read a_now a_aside a_past a_kept a_sights a_text a_weights a_tried a_row a_who a_order a_bestOrder a_costs a_taken a_now f_undos f_keptMany f_sightMany f_size f_at f_value f_above f_below f_paid f_post f_weights f_now x1 e_z13) ⟨⟨rfl, rfl⟩, Nat.le_of_ble_eq_true rfl, Nat.le_of_ble_eq_true rfl⟩ 0 rfl rfl rfl [0, 1, 3, 2] rfl rfl rfl rfl rfl (Nat.le_of_ble_eq_true rfl) (Nat.zero_le _) (Nat.zero_le _) rfl dX9_fewestFor_6 ?_
  refine g_iconst (v := (nI 0)) C dX9_fewestFor_9 rfl ?_
  refine g_istore_n (lv' := [(3, .int (nI 0)), (0, .ref h), (1, .int x1), (2, .int x2)]) C dX9_fewestFor_10 rfl (by decide) rfl ?_
  refine g_sub [1, 2, 3, 0] rfl ?_
  exact LX9_fewestFor_11_w C h a_post a_read a_now a_aside a_past a_kept a_sights a_text a_weights a_tried a_row a_who a_order a_bestOrder a_costs a_taken f_undos f_keptMany f_sightMany f_size f_at f_value f_above f_below f_paid f_post f_now z13 x1 x2 hR _ (nI 0) f_tried f_row hs
def sX9_fewest (f_post : Nat → Int32) (f_now : Nat → Int32) (f_weights : Nat → Int32) (f_tried : Nat → Int32) (f_row : Nat → Int32) (x1 : Int32) (x2 : Int32) (x3 : Int32) : Option (Int32 × (Nat → Int32) × (Nat → Int32) × (Nat → Int32)) :=
  vb (sX9_isActor f_post x1) fun z1 =>
  vi (z1 = 0) inferInstance (
    some ((-1), f_weights, f_tried, f_row)) (
    vb (sX9_isWord f_post x2) fun z3 =>
    vi (z3 = 0) inferInstance (
      some ((-1), f_weights, f_tried, f_row)) (
      vb (sX9_in (Int32.toInt64 x3) (lN 0) (lN 3)) fun z5 =>
      vi (z5 = 0) inferInstance (
        some ((-1), f_weights, f_tried, f_row)) (
        vb (sX9_waits f_now x1) fun z7 =>
        vi (z7 = 0) inferInstance (
          some ((-2), f_weights, f_tried, f_row)) (
          vb (sX9_fewestFor f_post f_now f_weights f_tried f_row x1 x2) fun z9 =>
          vi (z9.1 = (-4)) inferInstance (
            some (z9.1, z9.2.1, z9.2.2.1, z9.2.2.2)) (
            vi (x3 = 0) inferInstance (
              some (z9.1, z9.2.1, z9.2.2.1, z9.2.2.2)) (
              vi (z9.1 < x3) inferInstance (
                some ((-4), z9.2.1, z9.2.2.1, z9.2.2.2)) (
                vg (vin (x3 - (nI 1)) 3) (
                some (z9.2.2.2 (Int32.toNatClampNeg (x3 - (nI 1))), z9.2.1, z9.2.2.1, z9.2.2.2)))))))))
abbrev rmX9_fewest : Room := { frames := 6, cells := 0, slots := 0, locals := 147 }
set_option maxHeartbeats 4000000 in
set_option maxRecDepth 100000 in
theorem cX9_fewest_ct (l : Launch) (D : va_G) (cI : ClassId) (h : Nat) (a_post : Nat) (a_read : Nat) (a_now : Nat) (a_aside : Nat) (a_past : Nat) (a_kept : Nat) (a_sights : Nat) (a_text : Nat) (a_weights : Nat) (a_tried : Nat) (a_row : Nat) (a_who : Nat) (a_order : Nat) (a_bestOrder : Nat) (a_costs : Nat) (a_taken : Nat) (f_undos : Int32) (f_keptMany : Int32) (f_sightMany : Int32) (f_size : Int32) (f_at : Int32) (f_value : Int32) (f_above : Int64) (f_below : Int64) (f_paid : Int32) (f_post : Nat → Int32) (f_now : Nat → Int32) (f_weights : Nat → Int32) (f_tried : Nat → Int32) (f_row : Nat → Int32) (x1 : Int32) (x2 : Int32) (x3 : Int32) {z : Int32 × (Nat → Int32) × (Nat → Int32) × (Nat → Int32)} (hs : sX9_fewest f_post f_now f_weights f_tried f_row x1 x2 x3 = some z) : ct l yX9_fewest (.code yX9_fewest cX9_fewest 5 (some .int) :: gtb) rmX9_fewest D cI [.ref h, .int x1, .int x2, .int x3] [oX9 h a_post a_read a_now a_aside a_past f_undos a_kept f_keptMany a_sights f_sightMany a_text f_size f_at f_value a_weights a_tried f_above f_below f_paid a_row a_who a_order a_bestOrder a_costs a_taken, aI cI a_post 52 f_post, aI cI a_now 50 f_now, aI cI a_weights 8 f_weights, aI cI a_tried 8 f_tried, aI cI a_row 3 f_row] (some (.int z.1)) [oX9 h a_post a_read a_now a_aside a_past f_undos a_kept f_keptMany a_sights f_sightMany a_text f_size f_at f_value a_weights a_tried f_above f_below f_paid a_row a_who a_order a_bestOrder a_costs a_taken, aI cI a_post 52 f_post, aI cI a_now 50 f_now, aI cI a_weights 8 z.2.1, aI cI a_tried 8 z.2.2.1, aI cI a_row 3 z.2.2.2] := by
  refine ct_ofI (own := RX9) (by decide +kernel) rfl (Nat.le_of_ble_eq_true rfl) (fun X C hD hR => ?_)
  unfold sX9_fewest at hs
  show gg cI X 5 0 0 [oX9 h a_post a_read a_now a_aside a_past f_undos a_kept f_keptMany a_sights f_sightMany a_text f_size f_at f_value a_weights a_tried f_above f_below f_paid a_row a_who a_order a_bestOrder a_costs a_taken, aI cI a_post 52 f_post, aI cI a_now 50 f_now, aI cI a_weights 8 f_weights, aI cI a_tried 8 f_tried, aI cI a_row 3 f_row] [(0, .ref h), (1, .int x1), (2, .int x2), (3, .int x3)] 0 []
  refine g_aload_n (pl := 0) C dX9_fewest_0 rfl rfl ?_
  refine g_iload_n (pl := 1) C dX9_fewest_1 rfl rfl ?_
  obtain ⟨z1, e_z1, hs⟩ := vb_ok hs
  refine g_callV (ws' := [oX9 h a_post a_read a_now a_aside a_past f_undos a_kept f_keptMany a_sights f_sightMany a_text f_size f_at f_value a_weights a_tried f_above f_below f_paid a_row a_who a_order a_bestOrder a_costs a_taken, aI cI a_post 52 f_post, aI cI a_now 50 f_now, aI cI a_weights 8 f_weights, aI cI a_tried 8 f_tried, aI cI a_row 3 f_row]) (rest := []) (st' := [.int z1]) C mX9_165 q5_61 [.int x1] (fun l D => cX9_isActor_ct l D cI h a_post a_read a_now a_aside a_past a_kept a_sights a_text a_weights a_tried a_row a_who a_order a_bestOrder a_costs a_taken f_undos f_keptMany f_sightMany f_size f_at f_value f_above f_below f_paid f_post x1 e_z1) ⟨⟨rfl, rfl⟩, Nat.le_of_ble_eq_true rfl, Nat.le_of_ble_eq_true rfl⟩ 0 rfl rfl rfl [0, 1] rfl rfl rfl rfl rfl (Nat.le_of_ble_eq_true rfl) (Nat.zero_le _) (Nat.zero_le _) rfl dX9_fewest_2 ?_
  refine g_if_eq (tgt := 28) C dX9_fewest_5 (by decide) (fun c2 => ?_) (fun c2 => ?_)
  · replace hs := vi_t hs c2
    refine g_iconst (v := (-1)) C dX9_fewest_28 rfl ?_
    cases hs
    exact hR _ _ dX9_fewest_29
  · replace hs := vi_f hs c2
    refine g_aload_n (pl := 0) C dX9_fewest_8 rfl rfl ?_
    refine g_iload_n (pl := 2) C dX9_fewest_9 rfl rfl ?_
    obtain ⟨z3, e_z3, hs⟩ := vb_ok hs
    refine g_callV (ws' := [oX9 h a_post a_read a_now a_aside a_past f_undos a_kept f_keptMany a_sights f_sightMany a_text f_size f_at f_value a_weights a_tried f_above f_below f_paid a_row a_who a_order a_bestOrder a_costs a_taken, aI cI a_post 52 f_post, aI cI a_now 50 f_now, aI cI a_weights 8 f_weights, aI cI a_tried 8 f_tried, aI cI a_row 3 f_row]) (rest := []) (st' := [.int z3]) C mX9_155 q5_37 [.int x2] (fun l D => cX9_isWord_ct l D cI h a_post a_read a_now a_aside a_past a_kept a_sights a_text a_weights a_tried a_row a_who a_order a_bestOrder a_costs a_taken f_undos f_keptMany f_sightMany f_size f_at f_value f_above f_below f_paid f_post x2 e_z3) ⟨⟨rfl, rfl⟩, Nat.le_of_ble_eq_true rfl, Nat.le_of_ble_eq_true rfl⟩ 0 rfl rfl rfl [0, 1] rfl rfl rfl rfl rfl (Nat.le_of_ble_eq_true rfl) (Nat.zero_le _) (Nat.zero_le _) rfl dX9_fewest_10 ?_
    refine g_if_eq (tgt := 28) C dX9_fewest_13 (by decide) (fun c4 => ?_) (fun c4 => ?_)
    · replace hs := vi_t hs c4
      refine g_iconst (v := (-1)) C dX9_fewest_28 rfl ?_
      cases hs
      exact hR _ _ dX9_fewest_29
    · replace hs := vi_f hs c4
      refine g_iload_n (pl := 3) C dX9_fewest_16 rfl rfl ?_
      refine g_i2l C dX9_fewest_17 ?_
      refine g_lconst (v := (lN 0)) C dX9_fewest_18 rfl ?_
      refine g_ldc2 (v := (lN 3)) C q4_239 dX9_fewest_19 ?_
      obtain ⟨z5, e_z5, hs⟩ := vb_ok hs
      refine g_callS (ws' := [oX9 h a_post a_read a_now a_aside a_past f_undos a_kept f_keptMany a_sights f_sightMany a_text f_size f_at f_value a_weights a_tried f_above f_below f_paid a_row a_who a_order a_bestOrder a_costs a_taken, aI cI a_post 52 f_post, aI cI a_now 50 f_now, aI cI a_weights 8 f_weights, aI cI a_tried 8 f_tried, aI cI a_row 3 f_row]) (rest := []) (st' := [.int z5]) C mX9_82 q4_199 [.long (Int32.toInt64 x3), .long (lN 0), .long (lN 3)] (fun l D => cX9_in_ct l D cI (Int32.toInt64 x3) (lN 0) (lN 3) e_z5) ⟨⟨rfl, rfl⟩, Nat.le_of_ble_eq_true rfl, Nat.le_of_ble_eq_true rfl⟩ rfl [] rfl rfl rfl rfl rfl (Nat.le_of_ble_eq_true rfl) (Nat.zero_le _) (Nat.zero_le _) rfl dX9_fewest_22 ?_
      refine g_if_ne (tgt := 30) C dX9_fewest_25 (by decide) (fun c6 => ?_) (fun c6 => ?_)
      · replace hs := vi_f hs c6
        refine g_aload_n (pl := 0) C dX9_fewest_30 rfl rfl ?_
        refine g_iload_n (pl := 1) C dX9_fewest_31 rfl rfl ?_
        obtain ⟨z7, e_z7, hs⟩ := vb_ok hs
        refine g_callV (ws' := [oX9 h a_post a_read a_now a_aside a_past f_undos a_kept f_keptMany a_sights f_sightMany a_text f_size f_at f_value a_weights a_tried f_above f_below f_paid a_row a_who a_order a_bestOrder a_costs a_taken, aI cI a_post 52 f_post, aI cI a_now 50 f_now, aI cI a_weights 8 f_weights, aI cI a_tried 8 f_tried, aI cI a_row 3 f_row]) (rest := []) (st' := [.int z7]) C mX9_206 q5_109 [.int x1] (fun l D => cX9_waits_ct l D cI h a_post a_read a_now a_aside a_past a_kept a_sights a_text a_weights a_tried a_row a_who a_order a_bestOrder a_costs a_taken f_undos f_keptMany f_sightMany f_size f_at f_value f_above f_below f_paid f_now x1 e_z7) ⟨⟨rfl, rfl⟩, Nat.le_of_ble_eq_true rfl, Nat.le_of_ble_eq_true rfl⟩ 0 rfl rfl rfl [0, 2] rfl rfl rfl rfl rfl (Nat.le_of_ble_eq_true rfl) (Nat.zero_le _) (Nat.zero_le _) rfl dX9_fewest_32 ?_
        refine g_if_ne (tgt := 41) C dX9_fewest_35 (by decide) (fun c8 => ?_) (fun c8 => ?_)
        · replace hs := vi_f hs c8
          refine g_aload_n (pl := 0) C dX9_fewest_41 rfl rfl ?_
          refine g_iload_n (pl := 1) C dX9_fewest_42 rfl rfl ?_
          refine g_iload_n (pl := 2) C dX9_fewest_43 rfl rfl ?_
          obtain ⟨z9, e_z9, hs⟩ := vb_ok hs
          refine g_callV (ws' := [oX9 h a_post a_read a_now a_aside a_past f_undos a_kept f_keptMany a_sights f_sightMany a_text f_size f_at f_value a_weights a_tried f_above f_below f_paid a_row a_who a_order a_bestOrder a_costs a_taken, aI cI a_post 52 f_post, aI cI a_now 50 f_now, aI cI a_weights 8 z9.2.1, aI cI a_tried 8 z9.2.2.1, aI cI a_row 3 z9.2.2.2]) (rest := []) (st' := [.int z9.1]) C mX9_246 q5_163 [.int x1, .int x2] (fun l D => cX9_fewestFor_ct l D cI h a_post a_read a_now a_aside a_past a_kept a_sights a_text a_weights a_tried a_row a_who a_order a_bestOrder a_costs a_taken f_undos f_keptMany f_sightMany f_size f_at f_value f_above f_below f_paid f_post f_now f_weights f_tried f_row x1 x2 e_z9) ⟨⟨rfl, rfl⟩, Nat.le_of_ble_eq_true rfl, Nat.le_of_ble_eq_true rfl⟩ 0 rfl rfl rfl [0, 1, 2, 3, 4, 5] rfl rfl rfl rfl rfl (Nat.le_of_ble_eq_true rfl) (Nat.zero_le _) (Nat.zero_le _) rfl dX9_fewest_44 ?_
          refine g_istore (lv' := [(4, .int z9.1), (0, .ref h), (1, .int x1), (2, .int x2), (3, .int x3)]) C dX9_fewest_47 (by decide) rfl ?_
          refine g_iload (pl := 0) C dX9_fewest_49 rfl ?_
          refine g_bipush (v := (-4)) C dX9_fewest_51 rfl ?_
          refine g_icmp_eq (tgt := 60) C dX9_fewest_53 (by decide) (fun c10 => ?_) (fun c10 => ?_)
          · replace hs := vi_t hs c10
            refine g_iload (pl := 0) C dX9_fewest_60 rfl ?_
            refine g_goto (tgt := 84) C dX9_fewest_62 (by decide) ?_
            cases hs
            exact hR _ _ dX9_fewest_84
          · replace hs := vi_f hs c10
            refine g_iload_n (pl := 4) C dX9_fewest_56 rfl rfl ?_
            refine g_if_ne (tgt := 65) C dX9_fewest_57 (by decide) (fun c11 => ?_) (fun c11 => ?_)
            · replace hs := vi_f hs c11
              refine g_iload_n (pl := 4) C dX9_fewest_65 rfl rfl ?_
              refine g_iload (pl := 0) C dX9_fewest_66 rfl ?_
              refine g_icmp_gt (tgt := 82) C dX9_fewest_68 (by decide) (fun c12 => ?_) (fun c12 => ?_)
              · replace hs := vi_t hs c12
                refine g_bipush (v := (-4)) C dX9_fewest_82 rfl ?_
                cases hs
                exact hR _ _ dX9_fewest_84
              · replace hs := vi_f hs c12
                refine g_aload_n (pl := 1) C dX9_fewest_71 rfl rfl ?_
                refine g_get C fX9_40 0 rfl rfl dX9_fewest_72 ?_
                refine g_iload_n (pl := 4) C dX9_fewest_75 rfl rfl ?_
                refine g_iconst (v := (nI 1)) C dX9_fewest_76 rfl ?_
                refine g_isub C dX9_fewest_77 ?_
                obtain ⟨b13, hs⟩ := vg_ok hs
                refine g_iald C 5 rfl (vin_ok b13) dX9_fewest_78 ?_
                refine g_goto (tgt := 84) C dX9_fewest_79 (by decide) ?_
                cases hs
                exact hR _ _ dX9_fewest_84
            · replace hs := vi_t hs c11
              refine g_iload (pl := 0) C dX9_fewest_60 rfl ?_
              refine g_goto (tgt := 84) C dX9_fewest_62 (by decide) ?_
              cases hs
              exact hR _ _ dX9_fewest_84
        · replace hs := vi_t hs c8
          refine g_bipush (v := (-2)) C dX9_fewest_38 rfl ?_
          cases hs
          exact hR _ _ dX9_fewest_40
      · replace hs := vi_t hs c6
        refine g_iconst (v := (-1)) C dX9_fewest_28 rfl ?_
        cases hs
        exact hR _ _ dX9_fewest_29
def LX9_tells_41 (y_1 : Int32) (f_post : Nat → Int32) (f_now : Nat → Int32) (f_weights : Nat → Int32) : Nat → Int32 → Int64 → Int64 → Int32 → (Nat → Int32) → (Nat → Int32) → Option (Int32 × (Nat → Int32) × (Nat → Int32) × (Nat → Int32))
  | 0, _, _, _, _, _, _ => none
  | n + 1, y_2, y_3, y_5, y_7, f_tried, f_row =>
    vb (sX9_signs f_post) fun z1 =>
    vi (z1 ≤ y_7) inferInstance (
      some (y_2, f_weights, f_tried, f_row)) (
      vg (vin ((nI 10) + y_1) 50) (
      vi ((nI 5) ≤ (f_now (Int32.toNatClampNeg ((nI 10) + y_1)))) inferInstance (
        some (y_2, f_weights, f_tried, f_row)) (
        vb (sX9_has (f_post (Int32.toNatClampNeg (nI 3))) y_7) fun z5 =>
        vi (z5 = 0) inferInstance (
          vlet (upd f_row (Int32.toNatClampNeg (nI 0)) y_7) fun u8 =>
          vg (vin ((nI 37) + y_1) 52) (
          vb (sX9_wouldBe f_post f_weights f_tried u8 (f_post (Int32.toNatClampNeg ((nI 37) + y_1))) (nI 0) (nI 1)) fun z10 =>
          vb (sX9_sumOf f_post z10.2) fun z11 =>
          vg (vin ((nI 0) + y_1) 50) (
          vg (vin (f_now (Int32.toNatClampNeg ((nI 0) + y_1))) 8) (
          vlet (Int32.toInt64 (z10.2 (Int32.toNatClampNeg (f_now (Int32.toNatClampNeg ((nI 0) + y_1)))))) fun y14 =>
          vi ((lg_cmp z11 (lN 0)) = 0) inferInstance (
            vi (y_2 = (-4)) inferInstance (
              vlet (y_7 + (nI 1)) fun y22 =>
              LX9_tells_41 y_1 f_post f_now f_weights n y_7 y14 (lN 1) y22 z10.2 u8) (
              vi ((lg_cmp (y14 * y_5) (y_3 * (lN 1))) ≤ 0) inferInstance (
                vlet (y_7 + (nI 1)) fun y24 =>
                LX9_tells_41 y_1 f_post f_now f_weights n y_2 y_3 y_5 y24 z10.2 u8) (
                vlet (y_7 + (nI 1)) fun y25 =>
                LX9_tells_41 y_1 f_post f_now f_weights n y_7 y14 (lN 1) y25 z10.2 u8))) (
            vi (y_2 = (-4)) inferInstance (
              vlet (y_7 + (nI 1)) fun y17 =>
              LX9_tells_41 y_1 f_post f_now f_weights n y_7 y14 z11 y17 z10.2 u8) (
              vi ((lg_cmp (y14 * y_5) (y_3 * z11)) ≤ 0) inferInstance (
                vlet (y_7 + (nI 1)) fun y19 =>
                LX9_tells_41 y_1 f_post f_now f_weights n y_2 y_3 y_5 y19 z10.2 u8) (
                vlet (y_7 + (nI 1)) fun y20 =>
                LX9_tells_41 y_1 f_post f_now f_weights n y_7 y14 z11 y20 z10.2 u8))))))) (
          vlet (y_7 + (nI 1)) fun y7 =>
          LX9_tells_41 y_1 f_post f_now f_weights n y_2 y_3 y_5 y7 f_tried f_row))))
def sX9_tells (f_post : Nat → Int32) (f_now : Nat → Int32) (f_weights : Nat → Int32) (f_tried : Nat → Int32) (f_row : Nat → Int32) (x1 : Int32) : Option (Int32 × (Nat → Int32) × (Nat → Int32) × (Nat → Int32)) :=
  vb (sX9_isActor f_post x1) fun z26 =>
  vi (z26 = 0) inferInstance (
    some ((-1), f_weights, f_tried, f_row)) (
    vb (sX9_waits f_now x1) fun z28 =>
    vi (z28 = 0) inferInstance (
      some ((-2), f_weights, f_tried, f_row)) (
      vb (sX9_weighActor f_post f_weights f_now x1) fun z30 =>
      LX9_tells_41 x1 f_post f_now z30 vF (-4) (lN 0) (lN 1) (nI 0) f_tried f_row))
abbrev rmX9_tells : Room := { frames := 5, cells := 0, slots := 0, locals := 123 }
set_option maxHeartbeats 4000000 in
set_option maxRecDepth 100000 in
theorem LX9_tells_41_w {cI : ClassId} {X : xT} (C : cx cI X 13 cX9_tells RX9 rmX9_tells) (h : Nat) (a_post : Nat) (a_read : Nat) (a_now : Nat) (a_aside : Nat) (a_past : Nat) (a_kept : Nat) (a_sights : Nat) (a_text : Nat) (a_weights : Nat) (a_tried : Nat) (a_row : Nat) (a_who : Nat) (a_order : Nat) (a_bestOrder : Nat) (a_costs : Nat) (a_taken : Nat) (f_undos : Int32) (f_keptMany : Int32) (f_sightMany : Int32) (f_size : Int32) (f_at : Int32) (f_value : Int32) (f_above : Int64) (f_below : Int64) (f_paid : Int32) (f_post : Nat → Int32) (f_now : Nat → Int32) (f_weights : Nat → Int32) (y_1 : Int32) {z : Int32 × (Nat → Int32) × (Nat → Int32) × (Nat → Int32)} (hR : ∀ (lv : List (Nat × Value)) (pc : Nat), decode cX9_tells pc = .ok (.ireturn, 1) → gg cI X 13 0 0 [oX9 h a_post a_read a_now a_aside a_past f_undos a_kept f_keptMany a_sights f_sightMany a_text f_size f_at f_value a_weights a_tried f_above f_below f_paid a_row a_who a_order a_bestOrder a_costs a_taken, aI cI a_post 52 f_post, aI cI a_now 50 f_now, aI cI a_weights 8 z.2.1, aI cI a_tried 8 z.2.2.1, aI cI a_row 3 z.2.2.2] lv pc [.int z.1]) : ∀ (n : Nat) (y_2 : Int32) (y_3 : Int64) (y_5 : Int64) (y_7 : Int32) (f_tried : Nat → Int32) (f_row : Nat → Int32), LX9_tells_41 y_1 f_post f_now f_weights n y_2 y_3 y_5 y_7 f_tried f_row = some z → gg cI X 13 0 0 [oX9 h a_post a_read a_now a_aside a_past f_undos a_kept f_keptMany a_sights f_sightMany a_text f_size f_at f_value a_weights a_tried f_above f_below f_paid a_row a_who a_order a_bestOrder a_costs a_taken, aI cI a_post 52 f_post, aI cI a_now 50 f_now, aI cI a_weights 8 f_weights, aI cI a_tried 8 f_tried, aI cI a_row 3 f_row] [(0, .ref h), (1, .int y_1), (2, .int y_2), (3, .long y_3), (5, .long y_5), (7, .int y_7)] 41 [] := by
  intro n
  induction n with
  | zero =>
    intro y_2 y_3 y_5 y_7 f_tried f_row hs
    exact nn_ok hs
  | succ n ih =>
    intro y_2 y_3 y_5 y_7 f_tried f_row hs
    rw [LX9_tells_41] at hs
    refine g_iload (pl := 5) C dX9_tells_41 rfl ?_
    refine g_aload_n (pl := 0) C dX9_tells_43 rfl rfl ?_
    obtain ⟨z1, e_z1, hs⟩ := vb_ok hs
    refine g_callV (ws' := [oX9 h a_post a_read a_now a_aside a_past f_undos a_kept f_keptMany a_sights f_sightMany a_text f_size f_at f_value a_weights a_tried f_above f_below f_paid a_row a_who a_order a_bestOrder a_costs a_taken, aI cI a_post 52 f_post, aI cI a_now 50 f_now, aI cI a_weights 8 f_weights, aI cI a_tried 8 f_tried, aI cI a_row 3 f_row]) (rest := [.int y_7]) (st' := [.int z1, .int y_7]) C mX9_152 q5_53 [] (fun l D => cX9_signs_ct l D cI h a_post a_read a_now a_aside a_past a_kept a_sights a_text a_weights a_tried a_row a_who a_order a_bestOrder a_costs a_taken f_undos f_keptMany f_sightMany f_size f_at f_value f_above f_below f_paid f_post e_z1) ⟨⟨rfl, rfl⟩, Nat.le_of_ble_eq_true rfl, Nat.le_of_ble_eq_true rfl⟩ 0 rfl rfl rfl [0, 1] rfl rfl rfl rfl rfl (Nat.le_of_ble_eq_true rfl) (Nat.zero_le _) (Nat.zero_le _) rfl dX9_tells_44 ?_
    refine g_icmp_ge (tgt := 178) C dX9_tells_47 (by decide) (fun c2 => ?_) (fun c2 => ?_)
    · replace hs := vi_t hs c2
      refine g_iload_n (pl := 2) C dX9_tells_178 rfl rfl ?_
      cases hs
      exact hR _ _ dX9_tells_179
    · replace hs := vi_f hs c2
      refine g_aload_n (pl := 0) C dX9_tells_50 rfl rfl ?_
      refine g_get C fX9_16 0 rfl rfl dX9_tells_51 ?_
      refine g_bipush (v := (nI 10)) C dX9_tells_54 rfl ?_
      refine g_iload_n (pl := 1) C dX9_tells_56 rfl rfl ?_
      refine g_iadd C dX9_tells_57 ?_
      obtain ⟨b3, hs⟩ := vg_ok hs
      refine g_iald C 2 rfl (vin_ok b3) dX9_tells_58 ?_
      refine g_iconst (v := (nI 5)) C dX9_tells_59 rfl ?_
      refine g_icmp_ge (tgt := 178) C dX9_tells_60 (by decide) (fun c4 => ?_) (fun c4 => ?_)
      · replace hs := vi_t hs c4
        refine g_iload_n (pl := 2) C dX9_tells_178 rfl rfl ?_
        cases hs
        exact hR _ _ dX9_tells_179
      · replace hs := vi_f hs c4
        refine g_aload_n (pl := 0) C dX9_tells_63 rfl rfl ?_
        refine g_get C fX9_7 0 rfl rfl dX9_tells_64 ?_
        refine g_iconst (v := (nI 3)) C dX9_tells_67 rfl ?_
        refine g_iald C 1 rfl (vin_ok rfl) dX9_tells_68 ?_
        refine g_iload (pl := 5) C dX9_tells_69 rfl ?_
        obtain ⟨z5, e_z5, hs⟩ := vb_ok hs
        refine g_callS (ws' := [oX9 h a_post a_read a_now a_aside a_past f_undos a_kept f_keptMany a_sights f_sightMany a_text f_size f_at f_value a_weights a_tried f_above f_below f_paid a_row a_who a_order a_bestOrder a_costs a_taken, aI cI a_post 52 f_post, aI cI a_now 50 f_now, aI cI a_weights 8 f_weights, aI cI a_tried 8 f_tried, aI cI a_row 3 f_row]) (rest := []) (st' := [.int z5]) C mX9_120 q5_6 [.int (f_post (Int32.toNatClampNeg (nI 3))), .int y_7] (fun l D => cX9_has_ct l D cI (f_post (Int32.toNatClampNeg (nI 3))) y_7 e_z5) ⟨⟨rfl, rfl⟩, Nat.le_of_ble_eq_true rfl, Nat.le_of_ble_eq_true rfl⟩ rfl [] rfl rfl rfl rfl rfl (Nat.le_of_ble_eq_true rfl) (Nat.zero_le _) (Nat.zero_le _) rfl dX9_tells_71 ?_
        refine g_if_ne (tgt := 172) C dX9_tells_74 (by decide) (fun c6 => ?_) (fun c6 => ?_)
        · replace hs := vi_f hs c6
          obtain ⟨y7, e_y7, hs⟩ := vlet_ex hs
          refine g_iinc (pl := 5) (lv' := [(7, .int y7), (0, .ref h), (1, .int y_1), (2, .int y_2), (3, .long y_3), (5, .long y_5)]) C dX9_tells_172 rfl e_y7.symm (by decide) rfl ?_
          refine g_goto (tgt := 41) C dX9_tells_175 (by decide) ?_
          refine g_sub [1, 2, 3, 4, 5, 0] rfl ?_
          exact ih y_2 y_3 y_5 y7 f_tried f_row hs
        · replace hs := vi_t hs c6
          refine g_aload_n (pl := 0) C dX9_tells_77 rfl rfl ?_
          refine g_get C fX9_40 0 rfl rfl dX9_tells_78 ?_
          refine g_iconst (v := (nI 0)) C dX9_tells_81 rfl ?_
          refine g_iload (pl := 5) C dX9_tells_82 rfl ?_
          obtain ⟨u8, e_u8, hs⟩ := vlet_ex hs
          refine g_iast (ws' := [oX9 h a_post a_read a_now a_aside a_past f_undos a_kept f_keptMany a_sights f_sightMany a_text f_size f_at f_value a_weights a_tried f_above f_below f_paid a_row a_who a_order a_bestOrder a_costs a_taken, aI cI a_post 52 f_post, aI cI a_now 50 f_now, aI cI a_weights 8 f_weights, aI cI a_tried 8 f_tried, aI cI a_row 3 u8]) C 5 rfl (vin_ok rfl) (by rw [e_u8]; rfl) dX9_tells_84 ?_
          refine g_aload_n (pl := 0) C dX9_tells_85 rfl rfl ?_
          refine g_aload_n (pl := 0) C dX9_tells_86 rfl rfl ?_
          refine g_get C fX9_7 0 rfl rfl dX9_tells_87 ?_
          refine g_bipush (v := (nI 37)) C dX9_tells_90 rfl ?_
          refine g_iload_n (pl := 1) C dX9_tells_92 rfl rfl ?_
          refine g_iadd C dX9_tells_93 ?_
          obtain ⟨b9, hs⟩ := vg_ok hs
          refine g_iald C 1 rfl (vin_ok b9) dX9_tells_94 ?_
          refine g_iconst (v := (nI 0)) C dX9_tells_95 rfl ?_
          refine g_iconst (v := (nI 1)) C dX9_tells_96 rfl ?_
          obtain ⟨z10, e_z10, hs⟩ := vb_ok hs
          refine g_callV (ws' := [oX9 h a_post a_read a_now a_aside a_past f_undos a_kept f_keptMany a_sights f_sightMany a_text f_size f_at f_value a_weights a_tried f_above f_below f_paid a_row a_who a_order a_bestOrder a_costs a_taken, aI cI a_post 52 f_post, aI cI a_now 50 f_now, aI cI a_weights 8 f_weights, aI cI a_tried 8 z10.2, aI cI a_row 3 u8]) (rest := []) (st' := [.int z10.1]) C mX9_239 q5_171 [.int (f_post (Int32.toNatClampNeg ((nI 37) + y_1))), .int (nI 0), .int (nI 1)] (fun l D => cX9_wouldBe_ct l D cI h a_post a_read a_now a_aside a_past a_kept a_sights a_text a_weights a_tried a_row a_who a_order a_bestOrder a_costs a_taken f_undos f_keptMany f_sightMany f_size f_at f_value f_above f_below f_paid f_post f_weights f_tried u8 (f_post (Int32.toNatClampNeg ((nI 37) + y_1))) (nI 0) (nI 1) e_z10) ⟨⟨rfl, rfl⟩, Nat.le_of_ble_eq_true rfl, Nat.le_of_ble_eq_true rfl⟩ 0 rfl rfl rfl [0, 1, 3, 4, 5] rfl rfl rfl rfl rfl (Nat.le_of_ble_eq_true rfl) (Nat.zero_le _) (Nat.zero_le _) rfl dX9_tells_97 ?_
          refine g_istore (lv' := [(8, .int z10.1), (0, .ref h), (1, .int y_1), (2, .int y_2), (3, .long y_3), (5, .long y_5), (7, .int y_7)]) C dX9_tells_100 (by decide) rfl ?_
          refine g_aload_n (pl := 1) C dX9_tells_102 rfl rfl ?_
          refine g_aload_n (pl := 1) C dX9_tells_103 rfl rfl ?_
          refine g_get C fX9_37 0 rfl rfl dX9_tells_104 ?_
          obtain ⟨z11, e_z11, hs⟩ := vb_ok hs
          refine g_callV (ws' := [oX9 h a_post a_read a_now a_aside a_past f_undos a_kept f_keptMany a_sights f_sightMany a_text f_size f_at f_value a_weights a_tried f_above f_below f_paid a_row a_who a_order a_bestOrder a_costs a_taken, aI cI a_post 52 f_post, aI cI a_now 50 f_now, aI cI a_weights 8 f_weights, aI cI a_tried 8 z10.2, aI cI a_row 3 u8]) (rest := []) (st' := [.long z11]) C mX9_198 q5_97 [.ref a_tried] (fun l D => cX9_sumOf_ct l D cI h a_post a_read a_now a_aside a_past a_kept a_sights a_text a_weights a_tried a_row a_who a_order a_bestOrder a_costs a_taken a_tried f_undos f_keptMany f_sightMany f_size f_at f_value f_above f_below f_paid f_post z10.2 e_z11) ⟨⟨rfl, rfl⟩, Nat.le_of_ble_eq_true rfl, Nat.le_of_ble_eq_true rfl⟩ 0 rfl rfl rfl [0, 1, 4] rfl rfl rfl rfl rfl (Nat.le_of_ble_eq_true rfl) (Nat.zero_le _) (Nat.zero_le _) rfl dX9_tells_107 ?_
          refine g_lstore (lv' := [(9, .long z11), (8, .int z10.1), (0, .ref h), (1, .int y_1), (2, .int y_2), (3, .long y_3), (5, .long y_5), (7, .int y_7)]) C dX9_tells_110 (by decide) rfl ?_
          refine g_aload_n (pl := 2) C dX9_tells_112 rfl rfl ?_
          refine g_get C fX9_37 0 rfl rfl dX9_tells_113 ?_
          refine g_aload_n (pl := 2) C dX9_tells_116 rfl rfl ?_
          refine g_get C fX9_16 0 rfl rfl dX9_tells_117 ?_
          refine g_iconst (v := (nI 0)) C dX9_tells_120 rfl ?_
          refine g_iload_n (pl := 3) C dX9_tells_121 rfl rfl ?_
          refine g_iadd C dX9_tells_122 ?_
          obtain ⟨b12, hs⟩ := vg_ok hs
          refine g_iald C 2 rfl (vin_ok b12) dX9_tells_123 ?_
          obtain ⟨b13, hs⟩ := vg_ok hs
          refine g_iald C 4 rfl (vin_ok b13) dX9_tells_124 ?_
          refine g_i2l C dX9_tells_125 ?_
          obtain ⟨y14, e_y14, hs⟩ := vlet_ex hs
          refine g_topl e_y14 ?_
          refine g_lstore (lv' := [(11, .long y14), (9, .long z11), (8, .int z10.1), (0, .ref h), (1, .int y_1), (2, .int y_2), (3, .long y_3), (5, .long y_5), (7, .int y_7)]) C dX9_tells_126 (by decide) rfl ?_
          refine g_lload (pl := 1) C dX9_tells_128 rfl ?_
          refine g_lconst (v := (lN 0)) C dX9_tells_130 rfl ?_
          refine g_lcmp C dX9_tells_131 ?_
          refine g_if_ne (tgt := 139) C dX9_tells_132 (by decide) (fun c15 => ?_) (fun c15 => ?_)
          · replace hs := vi_f hs c15
            refine g_lload (pl := 1) C dX9_tells_139 rfl ?_
            refine g_lstore (lv' := [(9, .long z11), (11, .long y14), (8, .int z10.1), (0, .ref h), (1, .int y_1), (2, .int y_2), (3, .long y_3), (5, .long y_5), (7, .int y_7)]) C dX9_tells_141 (by decide) rfl ?_
            refine g_iload_n (pl := 5) C dX9_tells_143 rfl rfl ?_
            refine g_bipush (v := (-4)) C dX9_tells_144 rfl ?_
            refine g_icmp_eq (tgt := 162) C dX9_tells_146 (by decide) (fun c16 => ?_) (fun c16 => ?_)
            · replace hs := vi_t hs c16
              refine g_iload (pl := 8) C dX9_tells_162 rfl ?_
              refine g_istore_n (lv' := [(2, .int y_7), (9, .long z11), (11, .long y14), (8, .int z10.1), (0, .ref h), (1, .int y_1), (3, .long y_3), (5, .long y_5), (7, .int y_7)]) C dX9_tells_164 rfl (by decide) rfl ?_
              refine g_lload (pl := 2) C dX9_tells_165 rfl ?_
              refine g_lstore_n (lv' := [(3, .long y14), (2, .int y_7), (9, .long z11), (11, .long y14), (8, .int z10.1), (0, .ref h), (1, .int y_1), (5, .long y_5), (7, .int y_7)]) C dX9_tells_167 rfl (by decide) rfl ?_
              refine g_lload (pl := 2) C dX9_tells_168 rfl ?_
              refine g_lstore (lv' := [(5, .long z11), (3, .long y14), (2, .int y_7), (9, .long z11), (11, .long y14), (8, .int z10.1), (0, .ref h), (1, .int y_1), (7, .int y_7)]) C dX9_tells_170 (by decide) rfl ?_
              obtain ⟨y17, e_y17, hs⟩ := vlet_ex hs
              refine g_iinc (pl := 8) (lv' := [(7, .int y17), (5, .long z11), (3, .long y14), (2, .int y_7), (9, .long z11), (11, .long y14), (8, .int z10.1), (0, .ref h), (1, .int y_1)]) C dX9_tells_172 rfl e_y17.symm (by decide) rfl ?_
              refine g_goto (tgt := 41) C dX9_tells_175 (by decide) ?_
              refine g_sub [7, 8, 3, 2, 1, 0] rfl ?_
              exact ih y_7 y14 z11 y17 z10.2 u8 hs
            · replace hs := vi_f hs c16
              refine g_lload (pl := 1) C dX9_tells_149 rfl ?_
              refine g_lload (pl := 7) C dX9_tells_151 rfl ?_
              refine g_lmul C dX9_tells_153 ?_
              refine g_lload_n (pl := 6) C dX9_tells_154 rfl rfl ?_
              refine g_lload (pl := 0) C dX9_tells_155 rfl ?_
              refine g_lmul C dX9_tells_157 ?_
              refine g_lcmp C dX9_tells_158 ?_
              refine g_if_le (tgt := 172) C dX9_tells_159 (by decide) (fun c18 => ?_) (fun c18 => ?_)
              · replace hs := vi_t hs c18
                obtain ⟨y19, e_y19, hs⟩ := vlet_ex hs
                refine g_iinc (pl := 8) (lv' := [(7, .int y19), (9, .long z11), (11, .long y14), (8, .int z10.1), (0, .ref h), (1, .int y_1), (2, .int y_2), (3, .long y_3), (5, .long y_5)]) C dX9_tells_172 rfl e_y19.symm (by decide) rfl ?_
                refine g_goto (tgt := 41) C dX9_tells_175 (by decide) ?_
                refine g_sub [4, 5, 6, 7, 8, 0] rfl ?_
                exact ih y_2 y_3 y_5 y19 z10.2 u8 hs
              · replace hs := vi_f hs c18
                refine g_iload (pl := 8) C dX9_tells_162 rfl ?_
                refine g_istore_n (lv' := [(2, .int y_7), (9, .long z11), (11, .long y14), (8, .int z10.1), (0, .ref h), (1, .int y_1), (3, .long y_3), (5, .long y_5), (7, .int y_7)]) C dX9_tells_164 rfl (by decide) rfl ?_
                refine g_lload (pl := 2) C dX9_tells_165 rfl ?_
                refine g_lstore_n (lv' := [(3, .long y14), (2, .int y_7), (9, .long z11), (11, .long y14), (8, .int z10.1), (0, .ref h), (1, .int y_1), (5, .long y_5), (7, .int y_7)]) C dX9_tells_167 rfl (by decide) rfl ?_
                refine g_lload (pl := 2) C dX9_tells_168 rfl ?_
                refine g_lstore (lv' := [(5, .long z11), (3, .long y14), (2, .int y_7), (9, .long z11), (11, .long y14), (8, .int z10.1), (0, .ref h), (1, .int y_1), (7, .int y_7)]) C dX9_tells_170 (by decide) rfl ?_
                obtain ⟨y20, e_y20, hs⟩ := vlet_ex hs
                refine g_iinc (pl := 8) (lv' := [(7, .int y20), (5, .long z11), (3, .long y14), (2, .int y_7), (9, .long z11), (11, .long y14), (8, .int z10.1), (0, .ref h), (1, .int y_1)]) C dX9_tells_172 rfl e_y20.symm (by decide) rfl ?_
                refine g_goto (tgt := 41) C dX9_tells_175 (by decide) ?_
                refine g_sub [7, 8, 3, 2, 1, 0] rfl ?_
                exact ih y_7 y14 z11 y20 z10.2 u8 hs
          · replace hs := vi_t hs c15
            refine g_lconst (v := (lN 1)) C dX9_tells_135 rfl ?_
            refine g_goto (tgt := 141) C dX9_tells_136 (by decide) ?_
            refine g_lstore (lv' := [(9, .long (lN 1)), (11, .long y14), (8, .int z10.1), (0, .ref h), (1, .int y_1), (2, .int y_2), (3, .long y_3), (5, .long y_5), (7, .int y_7)]) C dX9_tells_141 (by decide) rfl ?_
            refine g_iload_n (pl := 5) C dX9_tells_143 rfl rfl ?_
            refine g_bipush (v := (-4)) C dX9_tells_144 rfl ?_
            refine g_icmp_eq (tgt := 162) C dX9_tells_146 (by decide) (fun c21 => ?_) (fun c21 => ?_)
            · replace hs := vi_t hs c21
              refine g_iload (pl := 8) C dX9_tells_162 rfl ?_
              refine g_istore_n (lv' := [(2, .int y_7), (9, .long (lN 1)), (11, .long y14), (8, .int z10.1), (0, .ref h), (1, .int y_1), (3, .long y_3), (5, .long y_5), (7, .int y_7)]) C dX9_tells_164 rfl (by decide) rfl ?_
              refine g_lload (pl := 2) C dX9_tells_165 rfl ?_
              refine g_lstore_n (lv' := [(3, .long y14), (2, .int y_7), (9, .long (lN 1)), (11, .long y14), (8, .int z10.1), (0, .ref h), (1, .int y_1), (5, .long y_5), (7, .int y_7)]) C dX9_tells_167 rfl (by decide) rfl ?_
              refine g_lload (pl := 2) C dX9_tells_168 rfl ?_
              refine g_lstore (lv' := [(5, .long (lN 1)), (3, .long y14), (2, .int y_7), (9, .long (lN 1)), (11, .long y14), (8, .int z10.1), (0, .ref h), (1, .int y_1), (7, .int y_7)]) C dX9_tells_170 (by decide) rfl ?_
              obtain ⟨y22, e_y22, hs⟩ := vlet_ex hs
              refine g_iinc (pl := 8) (lv' := [(7, .int y22), (5, .long (lN 1)), (3, .long y14), (2, .int y_7), (9, .long (lN 1)), (11, .long y14), (8, .int z10.1), (0, .ref h), (1, .int y_1)]) C dX9_tells_172 rfl e_y22.symm (by decide) rfl ?_
              refine g_goto (tgt := 41) C dX9_tells_175 (by decide) ?_
              refine g_sub [7, 8, 3, 2, 1, 0] rfl ?_
              exact ih y_7 y14 (lN 1) y22 z10.2 u8 hs
            · replace hs := vi_f hs c21
              refine g_lload (pl := 1) C dX9_tells_149 rfl ?_
              refine g_lload (pl := 7) C dX9_tells_151 rfl ?_
              refine g_lmul C dX9_tells_153 ?_
              refine g_lload_n (pl := 6) C dX9_tells_154 rfl rfl ?_
              refine g_lload (pl := 0) C dX9_tells_155 rfl ?_
              refine g_lmul C dX9_tells_157 ?_
              refine g_lcmp C dX9_tells_158 ?_
              refine g_if_le (tgt := 172) C dX9_tells_159 (by decide) (fun c23 => ?_) (fun c23 => ?_)
              · replace hs := vi_t hs c23
                obtain ⟨y24, e_y24, hs⟩ := vlet_ex hs
                refine g_iinc (pl := 8) (lv' := [(7, .int y24), (9, .long (lN 1)), (11, .long y14), (8, .int z10.1), (0, .ref h), (1, .int y_1), (2, .int y_2), (3, .long y_3), (5, .long y_5)]) C dX9_tells_172 rfl e_y24.symm (by decide) rfl ?_
                refine g_goto (tgt := 41) C dX9_tells_175 (by decide) ?_
                refine g_sub [4, 5, 6, 7, 8, 0] rfl ?_
                exact ih y_2 y_3 y_5 y24 z10.2 u8 hs
              · replace hs := vi_f hs c23
                refine g_iload (pl := 8) C dX9_tells_162 rfl ?_
                refine g_istore_n (lv' := [(2, .int y_7), (9, .long (lN 1)), (11, .long y14), (8, .int z10.1), (0, .ref h), (1, .int y_1), (3, .long y_3), (5, .long y_5), (7, .int y_7)]) C dX9_tells_164 rfl (by decide) rfl ?_
                refine g_lload (pl := 2) C dX9_tells_165 rfl ?_
                refine g_lstore_n (lv' := [(3, .long y14), (2, .int y_7), (9, .long (lN 1)), (11, .long y14), (8, .int z10.1), (0, .ref h), (1, .int y_1), (5, .long y_5), (7, .int y_7)]) C dX9_tells_167 rfl (by decide) rfl ?_
                refine g_lload (pl := 2) C dX9_tells_168 rfl ?_
                refine g_lstore (lv' := [(5, .long (lN 1)), (3, .long y14), (2, .int y_7), (9, .long (lN 1)), (11, .long y14), (8, .int z10.1), (0, .ref h), (1, .int y_1), (7, .int y_7)]) C dX9_tells_170 (by decide) rfl ?_
                obtain ⟨y25, e_y25, hs⟩ := vlet_ex hs
                refine g_iinc (pl := 8) (lv' := [(7, .int y25), (5, .long (lN 1)), (3, .long y14), (2, .int y_7), (9, .long (lN 1)), (11, .long y14), (8, .int z10.1), (0, .ref h), (1, .int y_1)]) C dX9_tells_172 rfl e_y25.symm (by decide) rfl ?_
                refine g_goto (tgt := 41) C dX9_tells_175 (by decide) ?_
                refine g_sub [7, 8, 3, 2, 1, 0] rfl ?_
                exact ih y_7 y14 (lN 1) y25 z10.2 u8 hs
set_option maxHeartbeats 4000000 in
set_option maxRecDepth 100000 in
theorem cX9_tells_ct (l : Launch) (D : va_G) (cI : ClassId) (h : Nat) (a_post : Nat) (a_read : Nat) (a_now : Nat) (a_aside : Nat) (a_past : Nat) (a_kept : Nat) (a_sights : Nat) (a_text : Nat) (a_weights : Nat) (a_tried : Nat) (a_row : Nat) (a_who : Nat) (a_order : Nat) (a_bestOrder : Nat) (a_costs : Nat) (a_taken : Nat) (f_undos : Int32) (f_keptMany : Int32) (f_sightMany : Int32) (f_size : Int32) (f_at : Int32) (f_value : Int32) (f_above : Int64) (f_below : Int64) (f_paid : Int32) (f_post : Nat → Int32) (f_now : Nat → Int32) (f_weights : Nat → Int32) (f_tried : Nat → Int32) (f_row : Nat → Int32) (x1 : Int32) {z : Int32 × (Nat → Int32) × (Nat → Int32) × (Nat → Int32)} (hs : sX9_tells f_post f_now f_weights f_tried f_row x1 = some z) : ct l yX9_tells (.code yX9_tells cX9_tells 13 (some .int) :: gtb) rmX9_tells D cI [.ref h, .int x1] [oX9 h a_post a_read a_now a_aside a_past f_undos a_kept f_keptMany a_sights f_sightMany a_text f_size f_at f_value a_weights a_tried f_above f_below f_paid a_row a_who a_order a_bestOrder a_costs a_taken, aI cI a_post 52 f_post, aI cI a_now 50 f_now, aI cI a_weights 8 f_weights, aI cI a_tried 8 f_tried, aI cI a_row 3 f_row] (some (.int z.1)) [oX9 h a_post a_read a_now a_aside a_past f_undos a_kept f_keptMany a_sights f_sightMany a_text f_size f_at f_value a_weights a_tried f_above f_below f_paid a_row a_who a_order a_bestOrder a_costs a_taken, aI cI a_post 52 f_post, aI cI a_now 50 f_now, aI cI a_weights 8 z.2.1, aI cI a_tried 8 z.2.2.1, aI cI a_row 3 z.2.2.2] := by
  refine ct_ofI (own := RX9) (by decide +kernel) rfl (Nat.le_of_ble_eq_true rfl) (fun X C hD hR => ?_)
  unfold sX9_tells at hs
  show gg cI X 13 0 0 [oX9 h a_post a_read a_now a_aside a_past f_undos a_kept f_keptMany a_sights f_sightMany a_text f_size f_at f_value a_weights a_tried f_above f_below f_paid a_row a_who a_order a_bestOrder a_costs a_taken, aI cI a_post 52 f_post, aI cI a_now 50 f_now, aI cI a_weights 8 f_weights, aI cI a_tried 8 f_tried, aI cI a_row 3 f_row] [(0, .ref h), (1, .int x1)] 0 []
  refine g_aload_n (pl := 0) C dX9_tells_0 rfl rfl ?_
  refine g_iload_n (pl := 1) C dX9_tells_1 rfl rfl ?_
  obtain ⟨z26, e_z26, hs⟩ := vb_ok hs
  refine g_callV (ws' := [oX9 h a_post a_read a_now a_aside a_past f_undos a_kept f_keptMany a_sights f_sightMany a_text f_size f_at f_value a_weights a_tried f_above f_below f_paid a_row a_who a_order a_bestOrder a_costs a_taken, aI cI a_post 52 f_post, aI cI a_now 50 f_now, aI cI a_weights 8 f_weights, aI cI a_tried 8 f_tried, aI cI a_row 3 f_row]) (rest := []) (st' := [.int z26]) C mX9_165 q5_61 [.int x1] (fun l D => cX9_isActor_ct l D cI h a_post a_read a_now a_aside a_past a_kept a_sights a_text a_weights a_tried a_row a_who a_order a_bestOrder a_costs a_taken f_undos f_keptMany f_sightMany f_size f_at f_value f_above f_below f_paid f_post x1 e_z26) ⟨⟨rfl, rfl⟩, Nat.le_of_ble_eq_true rfl, Nat.le_of_ble_eq_true rfl⟩ 0 rfl rfl rfl [0, 1] rfl rfl rfl rfl rfl (Nat.le_of_ble_eq_true rfl) (Nat.zero_le _) (Nat.zero_le _) rfl dX9_tells_2 ?_
  refine g_if_ne (tgt := 10) C dX9_tells_5 (by decide) (fun c27 => ?_) (fun c27 => ?_)
  · replace hs := vi_f hs c27
    refine g_aload_n (pl := 0) C dX9_tells_10 rfl rfl ?_
    refine g_iload_n (pl := 1) C dX9_tells_11 rfl rfl ?_
    obtain ⟨z28, e_z28, hs⟩ := vb_ok hs
    refine g_callV (ws' := [oX9 h a_post a_read a_now a_aside a_past f_undos a_kept f_keptMany a_sights f_sightMany a_text f_size f_at f_value a_weights a_tried f_above f_below f_paid a_row a_who a_order a_bestOrder a_costs a_taken, aI cI a_post 52 f_post, aI cI a_now 50 f_now, aI cI a_weights 8 f_weights, aI cI a_tried 8 f_tried, aI cI a_row 3 f_row]) (rest := []) (st' := [.int z28]) C mX9_206 q5_109 [.int x1] (fun l D => cX9_waits_ct l D cI h a_post a_read a_now a_aside a_past a_kept a_sights a_text a_weights a_tried a_row a_who a_order a_bestOrder a_costs a_taken f_undos f_keptMany f_sightMany f_size f_at f_value f_above f_below f_paid f_now x1 e_z28) ⟨⟨rfl, rfl⟩, Nat.le_of_ble_eq_true rfl, Nat.le_of_ble_eq_true rfl⟩ 0 rfl rfl rfl [0, 2] rfl rfl rfl rfl rfl (Nat.le_of_ble_eq_true rfl) (Nat.zero_le _) (Nat.zero_le _) rfl dX9_tells_12 ?_
    refine g_if_ne (tgt := 21) C dX9_tells_15 (by decide) (fun c29 => ?_) (fun c29 => ?_)
    · replace hs := vi_f hs c29
      refine g_aload_n (pl := 0) C dX9_tells_21 rfl rfl ?_
      refine g_aload_n (pl := 0) C dX9_tells_22 rfl rfl ?_
      refine g_get C fX9_16 0 rfl rfl dX9_tells_23 ?_
      refine g_iload_n (pl := 1) C dX9_tells_26 rfl rfl ?_
      obtain ⟨z30, e_z30, hs⟩ := vb_ok hs
      refine g_callV (ws' := [oX9 h a_post a_read a_now a_aside a_past f_undos a_kept f_keptMany a_sights f_sightMany a_text f_size f_at f_value a_weights a_tried f_above f_below f_paid a_row a_who a_order a_bestOrder a_costs a_taken, aI cI a_post 52 f_post, aI cI a_now 50 f_now, aI cI a_weights 8 z30, aI cI a_tried 8 f_tried, aI cI a_row 3 f_row]) (rest := []) (st' := []) C mX9_183 q5_73 [.ref a_now, .int x1] (fun l D => cX9_weighActor_ct l D cI h a_post a_read a_now a_aside a_past a_kept a_sights a_text a_weights a_tried a_row a_who a_order a_bestOrder a_costs a_taken a_now f_undos f_keptMany f_sightMany f_size f_at f_value f_above f_below f_paid f_post f_weights f_now x1 e_z30) ⟨⟨rfl, rfl⟩, Nat.le_of_ble_eq_true rfl, Nat.le_of_ble_eq_true rfl⟩ 0 rfl rfl rfl [0, 1, 3, 2] rfl rfl rfl rfl rfl (Nat.le_of_ble_eq_true rfl) (Nat.zero_le _) (Nat.zero_le _) rfl dX9_tells_27 ?_
      refine g_bipush (v := (-4)) C dX9_tells_30 rfl ?_
      refine g_istore_n (lv' := [(2, .int (-4)), (0, .ref h), (1, .int x1)]) C dX9_tells_32 rfl (by decide) rfl ?_
      refine g_lconst (v := (lN 0)) C dX9_tells_33 rfl ?_
      refine g_lstore_n (lv' := [(3, .long (lN 0)), (2, .int (-4)), (0, .ref h), (1, .int x1)]) C dX9_tells_34 rfl (by decide) rfl ?_
      refine g_lconst (v := (lN 1)) C dX9_tells_35 rfl ?_
      refine g_lstore (lv' := [(5, .long (lN 1)), (3, .long (lN 0)), (2, .int (-4)), (0, .ref h), (1, .int x1)]) C dX9_tells_36 (by decide) rfl ?_
      refine g_iconst (v := (nI 0)) C dX9_tells_38 rfl ?_
      refine g_istore (lv' := [(7, .int (nI 0)), (5, .long (lN 1)), (3, .long (lN 0)), (2, .int (-4)), (0, .ref h), (1, .int x1)]) C dX9_tells_39 (by decide) rfl ?_
      refine g_sub [4, 5, 3, 2, 1, 0] rfl ?_
      exact LX9_tells_41_w C h a_post a_read a_now a_aside a_past a_kept a_sights a_text a_weights a_tried a_row a_who a_order a_bestOrder a_costs a_taken f_undos f_keptMany f_sightMany f_size f_at f_value f_above f_below f_paid f_post f_now z30 x1 hR _ (-4) (lN 0) (lN 1) (nI 0) f_tried f_row hs
    · replace hs := vi_t hs c29
      refine g_bipush (v := (-2)) C dX9_tells_18 rfl ?_
      cases hs
      exact hR _ _ dX9_tells_20
  · replace hs := vi_t hs c27
    refine g_iconst (v := (-1)) C dX9_tells_8 rfl ?_
    cases hs
    exact hR _ _ dX9_tells_9
def LX9_nextOrder_100 : Nat → Int32 → Int32 → (Nat → Int32) → Option (Int32 × (Nat → Int32))
  | 0, _, _, _ => none
  | n + 1, y_5, y_6, f_order =>
    vi (y_6 ≤ y_5) inferInstance (
      some ((nI 1), f_order)) (
      vg (vin y_5 5) (
      vlet (f_order (Int32.toNatClampNeg y_5)) fun y3 =>
      vg (vin y_6 5) (
      vlet (f_order (Int32.toNatClampNeg y_6)) fun y5 =>
      vg (vin y_5 5) (
      vlet (upd f_order (Int32.toNatClampNeg y_5) y5) fun u7 =>
      vg (vin y_6 5) (
      vlet (upd u7 (Int32.toNatClampNeg y_6) y3) fun u9 =>
      vlet (y_5 + (nI 1)) fun y10 =>
      vlet (y_6 + (-1)) fun y11 =>
      LX9_nextOrder_100 n y10 y11 u9)))))
def LX9_nextOrder_41 (y_1 : Int32) (y_2 : Int32) (f_order : Nat → Int32) : Nat → Int32 → Option (Int32 × (Nat → Int32))
  | 0, _ => none
  | n + 1, y_3 =>
    vg (vin y_3 5) (
    vg (vin y_2 5) (
    vi ((f_order (Int32.toNatClampNeg y_2)) ≤ (f_order (Int32.toNatClampNeg y_3))) inferInstance (
      vg (vin y_2 5) (
      vlet (f_order (Int32.toNatClampNeg y_2)) fun y16 =>
      vg (vin y_3 5) (
      vlet (f_order (Int32.toNatClampNeg y_3)) fun y18 =>
      vg (vin y_2 5) (
      vlet (upd f_order (Int32.toNatClampNeg y_2) y18) fun u20 =>
      vg (vin y_3 5) (
      vlet (upd u20 (Int32.toNatClampNeg y_3) y16) fun u22 =>
      vlet (y_2 + (nI 1)) fun y23 =>
      vlet (y_1 - (nI 1)) fun y24 =>
      LX9_nextOrder_100 vF y23 y24 u22))))) (
      vlet (y_3 + (-1)) fun y25 =>
      LX9_nextOrder_41 y_1 y_2 f_order n y25)))
def LX9_nextOrder_4 (y_1 : Int32) (f_order : Nat → Int32) : Nat → Int32 → Option (Int32 × (Nat → Int32))
  | 0, _ => none
  | n + 1, y_2 =>
    vi (y_2 < 0) inferInstance (
      vi (0 ≤ y_2) inferInstance (
        vlet (y_1 - (nI 1)) fun y28 =>
        LX9_nextOrder_41 y_1 y_2 f_order vF y28) (
        some ((nI 0), f_order))) (
      vg (vin y_2 5) (
      vg (vin (y_2 + (nI 1)) 5) (
      vi ((f_order (Int32.toNatClampNeg y_2)) ≤ (f_order (Int32.toNatClampNeg (y_2 + (nI 1))))) inferInstance (
        vi (0 ≤ y_2) inferInstance (
          vlet (y_1 - (nI 1)) fun y33 =>
          LX9_nextOrder_41 y_1 y_2 f_order vF y33) (
          some ((nI 0), f_order))) (
        vlet (y_2 + (-1)) fun y34 =>
        LX9_nextOrder_4 y_1 f_order n y34))))
def sX9_nextOrder (f_order : Nat → Int32) (x1 : Int32) : Option (Int32 × (Nat → Int32)) :=
  vlet (x1 - (nI 2)) fun y35 =>
  LX9_nextOrder_4 x1 f_order vF y35
abbrev rmX9_nextOrder : Room := { frames := 0, cells := 0, slots := 0, locals := 0 }
set_option maxHeartbeats 4000000 in
set_option maxRecDepth 100000 in
theorem LX9_nextOrder_100_w {cI : ClassId} {X : xT} (C : cx cI X 7 cX9_nextOrder RX9 rmX9_nextOrder) (h : Nat) (a_post : Nat) (a_read : Nat) (a_now : Nat) (a_aside : Nat) (a_past : Nat) (a_kept : Nat) (a_sights : Nat) (a_text : Nat) (a_weights : Nat) (a_tried : Nat) (a_row : Nat) (a_who : Nat) (a_order : Nat) (a_bestOrder : Nat) (a_costs : Nat) (a_taken : Nat) (f_undos : Int32) (f_keptMany : Int32) (f_sightMany : Int32) (f_size : Int32) (f_at : Int32) (f_value : Int32) (f_above : Int64) (f_below : Int64) (f_paid : Int32) {z : Int32 × (Nat → Int32)} (hR : ∀ (lv : List (Nat × Value)) (pc : Nat), (z.1 = 0 ∨ z.1 = 1) → decode cX9_nextOrder pc = .ok (.ireturn, 1) → gg cI X 7 0 0 [oX9 h a_post a_read a_now a_aside a_past f_undos a_kept f_keptMany a_sights f_sightMany a_text f_size f_at f_value a_weights a_tried f_above f_below f_paid a_row a_who a_order a_bestOrder a_costs a_taken, aI cI a_order 5 z.2] lv pc [.int z.1]) : ∀ (n : Nat) (y_5 : Int32) (y_6 : Int32) (f_order : Nat → Int32), LX9_nextOrder_100 n y_5 y_6 f_order = some z → gg cI X 7 0 0 [oX9 h a_post a_read a_now a_aside a_past f_undos a_kept f_keptMany a_sights f_sightMany a_text f_size f_at f_value a_weights a_tried f_above f_below f_paid a_row a_who a_order a_bestOrder a_costs a_taken, aI cI a_order 5 f_order] [(0, .ref h), (5, .int y_5), (6, .int y_6)] 100 [] := by
  intro n
  induction n with
  | zero =>
    intro y_5 y_6 f_order hs
    exact nn_ok hs
  | succ n ih =>
    intro y_5 y_6 f_order hs
    rw [LX9_nextOrder_100] at hs
    refine g_iload (pl := 1) C dX9_nextOrder_100 rfl ?_
    refine g_iload (pl := 2) C dX9_nextOrder_102 rfl ?_
    refine g_icmp_ge (tgt := 148) C dX9_nextOrder_104 (by decide) (fun c1 => ?_) (fun c1 => ?_)
    · replace hs := vi_t hs c1
      refine g_iconst (v := (nI 1)) C dX9_nextOrder_148 rfl ?_
      cases hs
      exact hR _ _ (Or.inr rfl) dX9_nextOrder_149
    · replace hs := vi_f hs c1
      refine g_aload_n (pl := 0) C dX9_nextOrder_107 rfl rfl ?_
      refine g_get C fX9_46 0 rfl rfl dX9_nextOrder_108 ?_
      refine g_iload (pl := 1) C dX9_nextOrder_111 rfl ?_
      obtain ⟨b2, hs⟩ := vg_ok hs
      refine g_iald C 1 rfl (vin_ok b2) dX9_nextOrder_113 ?_
      obtain ⟨y3, e_y3, hs⟩ := vlet_ex hs
      refine g_topi e_y3 ?_
      refine g_istore (lv' := [(4, .int y3), (0, .ref h), (5, .int y_5), (6, .int y_6)]) C dX9_nextOrder_114 (by decide) rfl ?_
      refine g_aload_n (pl := 1) C dX9_nextOrder_116 rfl rfl ?_
      refine g_get C fX9_46 0 rfl rfl dX9_nextOrder_117 ?_
      refine g_iload (pl := 2) C dX9_nextOrder_120 rfl ?_
      refine g_aload_n (pl := 1) C dX9_nextOrder_122 rfl rfl ?_
      refine g_get C fX9_46 0 rfl rfl dX9_nextOrder_123 ?_
      refine g_iload (pl := 3) C dX9_nextOrder_126 rfl ?_
      obtain ⟨b4, hs⟩ := vg_ok hs
      refine g_iald C 1 rfl (vin_ok b4) dX9_nextOrder_128 ?_
      obtain ⟨y5, e_y5, hs⟩ := vlet_ex hs
      refine g_topi e_y5 ?_
      obtain ⟨b6, hs⟩ := vg_ok hs
      obtain ⟨u7, e_u7, hs⟩ := vlet_ex hs
      refine g_iast (ws' := [oX9 h a_post a_read a_now a_aside a_past f_undos a_kept f_keptMany a_sights f_sightMany a_text f_size f_at f_value a_weights a_tried f_above f_below f_paid a_row a_who a_order a_bestOrder a_costs a_taken, aI cI a_order 5 u7]) C 1 rfl (vin_ok b6) (by rw [e_u7]; rfl) dX9_nextOrder_129 ?_
      refine g_aload_n (pl := 1) C dX9_nextOrder_130 rfl rfl ?_
      refine g_get C fX9_46 0 rfl rfl dX9_nextOrder_131 ?_
      refine g_iload (pl := 3) C dX9_nextOrder_134 rfl ?_
      refine g_iload (pl := 0) C dX9_nextOrder_136 rfl ?_
      obtain ⟨b8, hs⟩ := vg_ok hs
      obtain ⟨u9, e_u9, hs⟩ := vlet_ex hs
      refine g_iast (ws' := [oX9 h a_post a_read a_now a_aside a_past f_undos a_kept f_keptMany a_sights f_sightMany a_text f_size f_at f_value a_weights a_tried f_above f_below f_paid a_row a_who a_order a_bestOrder a_costs a_taken, aI cI a_order 5 u9]) C 1 rfl (vin_ok b8) (by rw [e_u9]; rfl) dX9_nextOrder_138 ?_
      obtain ⟨y10, e_y10, hs⟩ := vlet_ex hs
      refine g_iinc (pl := 2) (lv' := [(5, .int y10), (4, .int y3), (0, .ref h), (6, .int y_6)]) C dX9_nextOrder_139 rfl e_y10.symm (by decide) rfl ?_
      obtain ⟨y11, e_y11, hs⟩ := vlet_ex hs
      refine g_iinc (pl := 3) (lv' := [(6, .int y11), (5, .int y10), (4, .int y3), (0, .ref h)]) C dX9_nextOrder_142 rfl e_y11.symm (by decide) rfl ?_
      refine g_goto (tgt := 100) C dX9_nextOrder_145 (by decide) ?_
      refine g_sub [3, 1, 0] rfl ?_
      exact ih y10 y11 u9 hs
set_option maxHeartbeats 4000000 in
set_option maxRecDepth 100000 in
theorem LX9_nextOrder_41_w {cI : ClassId} {X : xT} (C : cx cI X 7 cX9_nextOrder RX9 rmX9_nextOrder) (h : Nat) (a_post : Nat) (a_read : Nat) (a_now : Nat) (a_aside : Nat) (a_past : Nat) (a_kept : Nat) (a_sights : Nat) (a_text : Nat) (a_weights : Nat) (a_tried : Nat) (a_row : Nat) (a_who : Nat) (a_order : Nat) (a_bestOrder : Nat) (a_costs : Nat) (a_taken : Nat) (f_undos : Int32) (f_keptMany : Int32) (f_sightMany : Int32) (f_size : Int32) (f_at : Int32) (f_value : Int32) (f_above : Int64) (f_below : Int64) (f_paid : Int32) (f_order : Nat → Int32) (y_1 : Int32) (y_2 : Int32) {z : Int32 × (Nat → Int32)} (hR : ∀ (lv : List (Nat × Value)) (pc : Nat), (z.1 = 0 ∨ z.1 = 1) → decode cX9_nextOrder pc = .ok (.ireturn, 1) → gg cI X 7 0 0 [oX9 h a_post a_read a_now a_aside a_past f_undos a_kept f_keptMany a_sights f_sightMany a_text f_size f_at f_value a_weights a_tried f_above f_below f_paid a_row a_who a_order a_bestOrder a_costs a_taken, aI cI a_order 5 z.2] lv pc [.int z.1]) : ∀ (n : Nat) (y_3 : Int32), LX9_nextOrder_41 y_1 y_2 f_order n y_3 = some z → gg cI X 7 0 0 [oX9 h a_post a_read a_now a_aside a_past f_undos a_kept f_keptMany a_sights f_sightMany a_text f_size f_at f_value a_weights a_tried f_above f_below f_paid a_row a_who a_order a_bestOrder a_costs a_taken, aI cI a_order 5 f_order] [(0, .ref h), (1, .int y_1), (2, .int y_2), (3, .int y_3)] 41 [] := by
  intro n
  induction n with
  | zero =>
    intro y_3 hs
    exact nn_ok hs
  | succ n ih =>
    intro y_3 hs
    rw [LX9_nextOrder_41] at hs
    refine g_aload_n (pl := 0) C dX9_nextOrder_41 rfl rfl ?_
    refine g_get C fX9_46 0 rfl rfl dX9_nextOrder_42 ?_
    refine g_iload_n (pl := 3) C dX9_nextOrder_45 rfl rfl ?_
    obtain ⟨b12, hs⟩ := vg_ok hs
    refine g_iald C 1 rfl (vin_ok b12) dX9_nextOrder_46 ?_
    refine g_aload_n (pl := 0) C dX9_nextOrder_47 rfl rfl ?_
    refine g_get C fX9_46 0 rfl rfl dX9_nextOrder_48 ?_
    refine g_iload_n (pl := 2) C dX9_nextOrder_51 rfl rfl ?_
    obtain ⟨b13, hs⟩ := vg_ok hs
    refine g_iald C 1 rfl (vin_ok b13) dX9_nextOrder_52 ?_
    refine g_icmp_ge (tgt := 62) C dX9_nextOrder_53 (by decide) (fun c14 => ?_) (fun c14 => ?_)
    · replace hs := vi_t hs c14
      refine g_aload_n (pl := 0) C dX9_nextOrder_62 rfl rfl ?_
      refine g_get C fX9_46 0 rfl rfl dX9_nextOrder_63 ?_
      refine g_iload_n (pl := 2) C dX9_nextOrder_66 rfl rfl ?_
      obtain ⟨b15, hs⟩ := vg_ok hs
      refine g_iald C 1 rfl (vin_ok b15) dX9_nextOrder_67 ?_
      obtain ⟨y16, e_y16, hs⟩ := vlet_ex hs
      refine g_topi e_y16 ?_
      refine g_istore (lv' := [(4, .int y16), (0, .ref h), (1, .int y_1), (2, .int y_2), (3, .int y_3)]) C dX9_nextOrder_68 (by decide) rfl ?_
      refine g_aload_n (pl := 1) C dX9_nextOrder_70 rfl rfl ?_
      refine g_get C fX9_46 0 rfl rfl dX9_nextOrder_71 ?_
      refine g_iload_n (pl := 3) C dX9_nextOrder_74 rfl rfl ?_
      refine g_aload_n (pl := 1) C dX9_nextOrder_75 rfl rfl ?_
      refine g_get C fX9_46 0 rfl rfl dX9_nextOrder_76 ?_
      refine g_iload_n (pl := 4) C dX9_nextOrder_79 rfl rfl ?_
      obtain ⟨b17, hs⟩ := vg_ok hs
      refine g_iald C 1 rfl (vin_ok b17) dX9_nextOrder_80 ?_
      obtain ⟨y18, e_y18, hs⟩ := vlet_ex hs
      refine g_topi e_y18 ?_
      obtain ⟨b19, hs⟩ := vg_ok hs
      obtain ⟨u20, e_u20, hs⟩ := vlet_ex hs
      refine g_iast (ws' := [oX9 h a_post a_read a_now a_aside a_past f_undos a_kept f_keptMany a_sights f_sightMany a_text f_size f_at f_value a_weights a_tried f_above f_below f_paid a_row a_who a_order a_bestOrder a_costs a_taken, aI cI a_order 5 u20]) C 1 rfl (vin_ok b19) (by rw [e_u20]; rfl) dX9_nextOrder_81 ?_
      refine g_aload_n (pl := 1) C dX9_nextOrder_82 rfl rfl ?_
      refine g_get C fX9_46 0 rfl rfl dX9_nextOrder_83 ?_
      refine g_iload_n (pl := 4) C dX9_nextOrder_86 rfl rfl ?_
      refine g_iload (pl := 0) C dX9_nextOrder_87 rfl ?_
      obtain ⟨b21, hs⟩ := vg_ok hs
      obtain ⟨u22, e_u22, hs⟩ := vlet_ex hs
      refine g_iast (ws' := [oX9 h a_post a_read a_now a_aside a_past f_undos a_kept f_keptMany a_sights f_sightMany a_text f_size f_at f_value a_weights a_tried f_above f_below f_paid a_row a_who a_order a_bestOrder a_costs a_taken, aI cI a_order 5 u22]) C 1 rfl (vin_ok b21) (by rw [e_u22]; rfl) dX9_nextOrder_89 ?_
      refine g_iload_n (pl := 3) C dX9_nextOrder_90 rfl rfl ?_
      refine g_iconst (v := (nI 1)) C dX9_nextOrder_91 rfl ?_
      refine g_iadd C dX9_nextOrder_92 ?_
      obtain ⟨y23, e_y23, hs⟩ := vlet_ex hs
      refine g_topi e_y23 ?_
      refine g_istore (lv' := [(5, .int y23), (4, .int y16), (0, .ref h), (1, .int y_1), (2, .int y_2), (3, .int y_3)]) C dX9_nextOrder_93 (by decide) rfl ?_
      refine g_iload_n (pl := 3) C dX9_nextOrder_95 rfl rfl ?_
      refine g_iconst (v := (nI 1)) C dX9_nextOrder_96 rfl ?_
      refine g_isub C dX9_nextOrder_97 ?_
      obtain ⟨y24, e_y24, hs⟩ := vlet_ex hs
      refine g_topi e_y24 ?_
      refine g_istore (lv' := [(6, .int y24), (5, .int y23), (4, .int y16), (0, .ref h), (1, .int y_1), (2, .int y_2), (3, .int y_3)]) C dX9_nextOrder_98 (by decide) rfl ?_
      refine g_sub [3, 1, 0] rfl ?_
      exact LX9_nextOrder_100_w C h a_post a_read a_now a_aside a_past a_kept a_sights a_text a_weights a_tried a_row a_who a_order a_bestOrder a_costs a_taken f_undos f_keptMany f_sightMany f_size f_at f_value f_above f_below f_paid hR _ y23 y24 u22 hs
    · replace hs := vi_f hs c14
      obtain ⟨y25, e_y25, hs⟩ := vlet_ex hs
      refine g_iinc (pl := 3) (lv' := [(3, .int y25), (0, .ref h), (1, .int y_1), (2, .int y_2)]) C dX9_nextOrder_56 rfl e_y25.symm (by decide) rfl ?_
      refine g_goto (tgt := 41) C dX9_nextOrder_59 (by decide) ?_
      refine g_sub [1, 2, 3, 0] rfl ?_
      exact ih y25 hs
set_option maxHeartbeats 4000000 in
set_option maxRecDepth 100000 in
theorem LX9_nextOrder_4_w {cI : ClassId} {X : xT} (C : cx cI X 7 cX9_nextOrder RX9 rmX9_nextOrder) (h : Nat) (a_post : Nat) (a_read : Nat) (a_now : Nat) (a_aside : Nat) (a_past : Nat) (a_kept : Nat) (a_sights : Nat) (a_text : Nat) (a_weights : Nat) (a_tried : Nat) (a_row : Nat) (a_who : Nat) (a_order : Nat) (a_bestOrder : Nat) (a_costs : Nat) (a_taken : Nat) (f_undos : Int32) (f_keptMany : Int32) (f_sightMany : Int32) (f_size : Int32) (f_at : Int32) (f_value : Int32) (f_above : Int64) (f_below : Int64) (f_paid : Int32) (f_order : Nat → Int32) (y_1 : Int32) {z : Int32 × (Nat → Int32)} (hR : ∀ (lv : List (Nat × Value)) (pc : Nat), (z.1 = 0 ∨ z.1 = 1) → decode cX9_nextOrder pc = .ok (.ireturn, 1) → gg cI X 7 0 0 [oX9 h a_post a_read a_now a_aside a_past f_undos a_kept f_keptMany a_sights f_sightMany a_text f_size f_at f_value a_weights a_tried f_above f_below f_paid a_row a_who a_order a_bestOrder a_costs a_taken, aI cI a_order 5 z.2] lv pc [.int z.1]) : ∀ (n : Nat) (y_2 : Int32), LX9_nextOrder_4 y_1 f_order n y_2 = some z → gg cI X 7 0 0 [oX9 h a_post a_read a_now a_aside a_past f_undos a_kept f_keptMany a_sights f_sightMany a_text f_size f_at f_value a_weights a_tried f_above f_below f_paid a_row a_who a_order a_bestOrder a_costs a_taken, aI cI a_order 5 f_order] [(0, .ref h), (1, .int y_1), (2, .int y_2)] 4 [] := by
  intro n
  induction n with
  | zero =>
    intro y_2 hs
    exact nn_ok hs
  | succ n ih =>
    intro y_2 hs
    rw [LX9_nextOrder_4] at hs
    refine g_iload_n (pl := 2) C dX9_nextOrder_4 rfl rfl ?_
    refine g_if_lt (tgt := 31) C dX9_nextOrder_5 (by decide) (fun c26 => ?_) (fun c26 => ?_)
    · replace hs := vi_t hs c26
      refine g_iload_n (pl := 2) C dX9_nextOrder_31 rfl rfl ?_
      refine g_if_ge (tgt := 37) C dX9_nextOrder_32 (by decide) (fun c27 => ?_) (fun c27 => ?_)
      · replace hs := vi_t hs c27
        refine g_iload_n (pl := 1) C dX9_nextOrder_37 rfl rfl ?_
        refine g_iconst (v := (nI 1)) C dX9_nextOrder_38 rfl ?_
        refine g_isub C dX9_nextOrder_39 ?_
        obtain ⟨y28, e_y28, hs⟩ := vlet_ex hs
        refine g_topi e_y28 ?_
        refine g_istore_n (lv' := [(3, .int y28), (0, .ref h), (1, .int y_1), (2, .int y_2)]) C dX9_nextOrder_40 rfl (by decide) rfl ?_
        refine g_sub [1, 2, 3, 0] rfl ?_
        exact LX9_nextOrder_41_w C h a_post a_read a_now a_aside a_past a_kept a_sights a_text a_weights a_tried a_row a_who a_order a_bestOrder a_costs a_taken f_undos f_keptMany f_sightMany f_size f_at f_value f_above f_below f_paid f_order y_1 y_2 hR _ y28 hs
      · replace hs := vi_f hs c27
        refine g_iconst (v := (nI 0)) C dX9_nextOrder_35 rfl ?_
        cases hs
        exact hR _ _ (Or.inl rfl) dX9_nextOrder_36
    · replace hs := vi_f hs c26
      refine g_aload_n (pl := 0) C dX9_nextOrder_8 rfl rfl ?_
      refine g_get C fX9_46 0 rfl rfl dX9_nextOrder_9 ?_
      refine g_iload_n (pl := 2) C dX9_nextOrder_12 rfl rfl ?_
      obtain ⟨b29, hs⟩ := vg_ok hs
      refine g_iald C 1 rfl (vin_ok b29) dX9_nextOrder_13 ?_
      refine g_aload_n (pl := 0) C dX9_nextOrder_14 rfl rfl ?_
      refine g_get C fX9_46 0 rfl rfl dX9_nextOrder_15 ?_
      refine g_iload_n (pl := 2) C dX9_nextOrder_18 rfl rfl ?_
      refine g_iconst (v := (nI 1)) C dX9_nextOrder_19 rfl ?_
      refine g_iadd C dX9_nextOrder_20 ?_
      obtain ⟨b30, hs⟩ := vg_ok hs
      refine g_iald C 1 rfl (vin_ok b30) dX9_nextOrder_21 ?_
      refine g_icmp_le (tgt := 31) C dX9_nextOrder_22 (by decide) (fun c31 => ?_) (fun c31 => ?_)
      · replace hs := vi_t hs c31
        refine g_iload_n (pl := 2) C dX9_nextOrder_31 rfl rfl ?_
        refine g_if_ge (tgt := 37) C dX9_nextOrder_32 (by decide) (fun c32 => ?_) (fun c32 => ?_)
        · replace hs := vi_t hs c32
          refine g_iload_n (pl := 1) C dX9_nextOrder_37 rfl rfl ?_
          refine g_iconst (v := (nI 1)) C dX9_nextOrder_38 rfl ?_
          refine g_isub C dX9_nextOrder_39 ?_
          obtain ⟨y33, e_y33, hs⟩ := vlet_ex hs
          refine g_topi e_y33 ?_
          refine g_istore_n (lv' := [(3, .int y33), (0, .ref h), (1, .int y_1), (2, .int y_2)]) C dX9_nextOrder_40 rfl (by decide) rfl ?_
          refine g_sub [1, 2, 3, 0] rfl ?_
          exact LX9_nextOrder_41_w C h a_post a_read a_now a_aside a_past a_kept a_sights a_text a_weights a_tried a_row a_who a_order a_bestOrder a_costs a_taken f_undos f_keptMany f_sightMany f_size f_at f_value f_above f_below f_paid f_order y_1 y_2 hR _ y33 hs
        · replace hs := vi_f hs c32
          refine g_iconst (v := (nI 0)) C dX9_nextOrder_35 rfl ?_
          cases hs
          exact hR _ _ (Or.inl rfl) dX9_nextOrder_36
      · replace hs := vi_f hs c31
        obtain ⟨y34, e_y34, hs⟩ := vlet_ex hs
        refine g_iinc (pl := 2) (lv' := [(2, .int y34), (0, .ref h), (1, .int y_1)]) C dX9_nextOrder_25 rfl e_y34.symm (by decide) rfl ?_
        refine g_goto (tgt := 4) C dX9_nextOrder_28 (by decide) ?_
        refine g_sub [1, 2, 0] rfl ?_
        exact ih y34 hs
set_option maxHeartbeats 4000000 in
set_option maxRecDepth 100000 in
theorem cX9_nextOrder_ct (l : Launch) (D : va_G) (cI : ClassId) (h : Nat) (a_post : Nat) (a_read : Nat) (a_now : Nat) (a_aside : Nat) (a_past : Nat) (a_kept : Nat) (a_sights : Nat) (a_text : Nat) (a_weights : Nat) (a_tried : Nat) (a_row : Nat) (a_who : Nat) (a_order : Nat) (a_bestOrder : Nat) (a_costs : Nat) (a_taken : Nat) (f_undos : Int32) (f_keptMany : Int32) (f_sightMany : Int32) (f_size : Int32) (f_at : Int32) (f_value : Int32) (f_above : Int64) (f_below : Int64) (f_paid : Int32) (f_order : Nat → Int32) (x1 : Int32) {z : Int32 × (Nat → Int32)} (hs : sX9_nextOrder f_order x1 = some z) : ct l yX9_nextOrder (.code yX9_nextOrder cX9_nextOrder 7 (some .boolean) :: gtb) rmX9_nextOrder D cI [.ref h, .int x1] [oX9 h a_post a_read a_now a_aside a_past f_undos a_kept f_keptMany a_sights f_sightMany a_text f_size f_at f_value a_weights a_tried f_above f_below f_paid a_row a_who a_order a_bestOrder a_costs a_taken, aI cI a_order 5 f_order] (some (.int z.1)) [oX9 h a_post a_read a_now a_aside a_past f_undos a_kept f_keptMany a_sights f_sightMany a_text f_size f_at f_value a_weights a_tried f_above f_below f_paid a_row a_who a_order a_bestOrder a_costs a_taken, aI cI a_order 5 z.2] := by
  refine ct_ofZ (own := RX9) (by decide +kernel) rfl (Nat.le_of_ble_eq_true rfl) (fun X C hD hR => ?_)
  unfold sX9_nextOrder at hs
  show gg cI X 7 0 0 [oX9 h a_post a_read a_now a_aside a_past f_undos a_kept f_keptMany a_sights f_sightMany a_text f_size f_at f_value a_weights a_tried f_above f_below f_paid a_row a_who a_order a_bestOrder a_costs a_taken, aI cI a_order 5 f_order] [(0, .ref h), (1, .int x1)] 0 []
  refine g_iload_n (pl := 1) C dX9_nextOrder_0 rfl rfl ?_
  refine g_iconst (v := (nI 2)) C dX9_nextOrder_1 rfl ?_
  refine g_isub C dX9_nextOrder_2 ?_
  obtain ⟨y35, e_y35, hs⟩ := vlet_ex hs
  refine g_topi e_y35 ?_
  refine g_istore_n (lv' := [(2, .int y35), (0, .ref h), (1, .int x1)]) C dX9_nextOrder_3 rfl (by decide) rfl ?_
  refine g_sub [1, 2, 0] rfl ?_
  exact LX9_nextOrder_4_w C h a_post a_read a_now a_aside a_past a_kept a_sights a_text a_weights a_tried a_row a_who a_order a_bestOrder a_costs a_taken f_undos f_keptMany f_sightMany f_size f_at f_value f_above f_below f_paid f_order x1 hR _ y35 hs
def LX9_firstOrder_2 (y_1 : Int32) : Nat → Int32 → (Nat → Int32) → Option ((Nat → Int32))
  | 0, _, _ => none
  | n + 1, y_2, f_order =>
    vi (y_1 ≤ y_2) inferInstance (
      some (f_order)) (
      vg (vin y_2 5) (
      vlet (upd f_order (Int32.toNatClampNeg y_2) y_2) fun u3 =>
      vlet (y_2 + (nI 1)) fun y4 =>
      LX9_firstOrder_2 y_1 n y4 u3))
def sX9_firstOrder (f_order : Nat → Int32) (x1 : Int32) : Option ((Nat → Int32)) :=
  LX9_firstOrder_2 x1 vF (nI 0) f_order
abbrev rmX9_firstOrder : Room := { frames := 0, cells := 0, slots := 0, locals := 0 }
set_option maxHeartbeats 4000000 in
set_option maxRecDepth 100000 in
theorem LX9_firstOrder_2_w {cI : ClassId} {X : xT} (C : cx cI X 3 cX9_firstOrder RX9 rmX9_firstOrder) (h : Nat) (a_post : Nat) (a_read : Nat) (a_now : Nat) (a_aside : Nat) (a_past : Nat) (a_kept : Nat) (a_sights : Nat) (a_text : Nat) (a_weights : Nat) (a_tried : Nat) (a_row : Nat) (a_who : Nat) (a_order : Nat) (a_bestOrder : Nat) (a_costs : Nat) (a_taken : Nat) (f_undos : Int32) (f_keptMany : Int32) (f_sightMany : Int32) (f_size : Int32) (f_at : Int32) (f_value : Int32) (f_above : Int64) (f_below : Int64) (f_paid : Int32) (y_1 : Int32) {z : (Nat → Int32)} (hR : ∀ (lv : List (Nat × Value)) (pc : Nat), decode cX9_firstOrder pc = .ok (.return_, 1) → gg cI X 3 0 0 [oX9 h a_post a_read a_now a_aside a_past f_undos a_kept f_keptMany a_sights f_sightMany a_text f_size f_at f_value a_weights a_tried f_above f_below f_paid a_row a_who a_order a_bestOrder a_costs a_taken, aI cI a_order 5 z] lv pc []) : ∀ (n : Nat) (y_2 : Int32) (f_order : Nat → Int32), LX9_firstOrder_2 y_1 n y_2 f_order = some z → gg cI X 3 0 0 [oX9 h a_post a_read a_now a_aside a_past f_undos a_kept f_keptMany a_sights f_sightMany a_text f_size f_at f_value a_weights a_tried f_above f_below f_paid a_row a_who a_order a_bestOrder a_costs a_taken, aI cI a_order 5 f_order] [(0, .ref h), (1, .int y_1), (2, .int y_2)] 2 [] := by
  intro n
  induction n with
  | zero =>
    intro y_2 f_order hs
    exact nn_ok hs
  | succ n ih =>
    intro y_2 f_order hs
    rw [LX9_firstOrder_2] at hs
    refine g_iload_n (pl := 2) C dX9_firstOrder_2 rfl rfl ?_
    refine g_iload_n (pl := 1) C dX9_firstOrder_3 rfl rfl ?_
    refine g_icmp_ge (tgt := 20) C dX9_firstOrder_4 (by decide) (fun c1 => ?_) (fun c1 => ?_)
    · replace hs := vi_t hs c1
      cases hs
      exact hR _ _ dX9_firstOrder_20
    · replace hs := vi_f hs c1
      refine g_aload_n (pl := 0) C dX9_firstOrder_7 rfl rfl ?_
      refine g_get C fX9_46 0 rfl rfl dX9_firstOrder_8 ?_
      refine g_iload_n (pl := 2) C dX9_firstOrder_11 rfl rfl ?_
      refine g_iload_n (pl := 2) C dX9_firstOrder_12 rfl rfl ?_
      obtain ⟨b2, hs⟩ := vg_ok hs
      obtain ⟨u3, e_u3, hs⟩ := vlet_ex hs
      refine g_iast (ws' := [oX9 h a_post a_read a_now a_aside a_past f_undos a_kept f_keptMany a_sights f_sightMany a_text f_size f_at f_value a_weights a_tried f_above f_below f_paid a_row a_who a_order a_bestOrder a_costs a_taken, aI cI a_order 5 u3]) C 1 rfl (vin_ok b2) (by rw [e_u3]; rfl) dX9_firstOrder_13 ?_
      obtain ⟨y4, e_y4, hs⟩ := vlet_ex hs
      refine g_iinc (pl := 2) (lv' := [(2, .int y4), (0, .ref h), (1, .int y_1)]) C dX9_firstOrder_14 rfl e_y4.symm (by decide) rfl ?_
      refine g_goto (tgt := 2) C dX9_firstOrder_17 (by decide) ?_
      refine g_sub [1, 2, 0] rfl ?_
      exact ih y4 u3 hs
set_option maxHeartbeats 4000000 in
set_option maxRecDepth 100000 in
theorem cX9_firstOrder_ct (l : Launch) (D : va_G) (cI : ClassId) (h : Nat) (a_post : Nat) (a_read : Nat) (a_now : Nat) (a_aside : Nat) (a_past : Nat) (a_kept : Nat) (a_sights : Nat) (a_text : Nat) (a_weights : Nat) (a_tried : Nat) (a_row : Nat) (a_who : Nat) (a_order : Nat) (a_bestOrder : Nat) (a_costs : Nat) (a_taken : Nat) (f_undos : Int32) (f_keptMany : Int32) (f_sightMany : Int32) (f_size : Int32) (f_at : Int32) (f_value : Int32) (f_above : Int64) (f_below : Int64) (f_paid : Int32) (f_order : Nat → Int32) (x1 : Int32) {z : (Nat → Int32)} (hs : sX9_firstOrder f_order x1 = some z) : ct l yX9_firstOrder (.code yX9_firstOrder cX9_firstOrder 3 none :: gtb) rmX9_firstOrder D cI [.ref h, .int x1] [oX9 h a_post a_read a_now a_aside a_past f_undos a_kept f_keptMany a_sights f_sightMany a_text f_size f_at f_value a_weights a_tried f_above f_below f_paid a_row a_who a_order a_bestOrder a_costs a_taken, aI cI a_order 5 f_order] none [oX9 h a_post a_read a_now a_aside a_past f_undos a_kept f_keptMany a_sights f_sightMany a_text f_size f_at f_value a_weights a_tried f_above f_below f_paid a_row a_who a_order a_bestOrder a_costs a_taken, aI cI a_order 5 z] := by
  refine ct_ofV (own := RX9) (by decide +kernel) rfl (Nat.le_of_ble_eq_true rfl) (fun X C hD hR => ?_)
  unfold sX9_firstOrder at hs
  show gg cI X 3 0 0 [oX9 h a_post a_read a_now a_aside a_past f_undos a_kept f_keptMany a_sights f_sightMany a_text f_size f_at f_value a_weights a_tried f_above f_below f_paid a_row a_who a_order a_bestOrder a_costs a_taken, aI cI a_order 5 f_order] [(0, .ref h), (1, .int x1)] 0 []
  refine g_iconst (v := (nI 0)) C dX9_firstOrder_0 rfl ?_
  refine g_istore_n (lv' := [(2, .int (nI 0)), (0, .ref h), (1, .int x1)]) C dX9_firstOrder_1 rfl (by decide) rfl ?_
  refine g_sub [1, 2, 0] rfl ?_
  exact LX9_firstOrder_2_w C h a_post a_read a_now a_aside a_past a_kept a_sights a_text a_weights a_tried a_row a_who a_order a_bestOrder a_costs a_taken f_undos f_keptMany f_sightMany f_size f_at f_value f_above f_below f_paid x1 hR _ (nI 0) f_order hs
def LX9_freshOnes_4 (f_post : Nat → Int32) (f_now : Nat → Int32) : Nat → Int32 → Int32 → (Nat → Int32) → Option (Int32 × (Nat → Int32))
  | 0, _, _, _ => none
  | n + 1, y_1, y_2, f_who =>
    vi ((f_post (Int32.toNatClampNeg (nI 2))) ≤ y_2) inferInstance (
      some (y_1, f_who)) (
      vb (sX9_isFresh f_now y_2) fun z2 =>
      vi (z2 = 0) inferInstance (
        vlet (y_2 + (nI 1)) fun y4 =>
        LX9_freshOnes_4 f_post f_now n y_1 y4 f_who) (
        vg (vin y_1 5) (
        vlet (upd f_who (Int32.toNatClampNeg y_1) y_2) fun u6 =>
        vlet (y_1 + (nI 1)) fun y7 =>
        vlet (y_2 + (nI 1)) fun y8 =>
        LX9_freshOnes_4 f_post f_now n y7 y8 u6)))
def sX9_freshOnes (f_post : Nat → Int32) (f_now : Nat → Int32) (f_who : Nat → Int32) : Option (Int32 × (Nat → Int32)) :=
  LX9_freshOnes_4 f_post f_now vF (nI 0) (nI 0) f_who
abbrev rmX9_freshOnes : Room := { frames := 2, cells := 0, slots := 0, locals := 42 }
set_option maxHeartbeats 4000000 in
set_option maxRecDepth 100000 in
theorem LX9_freshOnes_4_w {cI : ClassId} {X : xT} (C : cx cI X 3 cX9_freshOnes RX9 rmX9_freshOnes) (h : Nat) (a_post : Nat) (a_read : Nat) (a_now : Nat) (a_aside : Nat) (a_past : Nat) (a_kept : Nat) (a_sights : Nat) (a_text : Nat) (a_weights : Nat) (a_tried : Nat) (a_row : Nat) (a_who : Nat) (a_order : Nat) (a_bestOrder : Nat) (a_costs : Nat) (a_taken : Nat) (f_undos : Int32) (f_keptMany : Int32) (f_sightMany : Int32) (f_size : Int32) (f_at : Int32) (f_value : Int32) (f_above : Int64) (f_below : Int64) (f_paid : Int32) (f_post : Nat → Int32) (f_now : Nat → Int32) {z : Int32 × (Nat → Int32)} (hR : ∀ (lv : List (Nat × Value)) (pc : Nat), decode cX9_freshOnes pc = .ok (.ireturn, 1) → gg cI X 3 0 0 [oX9 h a_post a_read a_now a_aside a_past f_undos a_kept f_keptMany a_sights f_sightMany a_text f_size f_at f_value a_weights a_tried f_above f_below f_paid a_row a_who a_order a_bestOrder a_costs a_taken, aI cI a_post 52 f_post, aI cI a_now 50 f_now, aI cI a_who 5 z.2] lv pc [.int z.1]) : ∀ (n : Nat) (y_1 : Int32) (y_2 : Int32) (f_who : Nat → Int32), LX9_freshOnes_4 f_post f_now n y_1 y_2 f_who = some z → gg cI X 3 0 0 [oX9 h a_post a_read a_now a_aside a_past f_undos a_kept f_keptMany a_sights f_sightMany a_text f_size f_at f_value a_weights a_tried f_above f_below f_paid a_row a_who a_order a_bestOrder a_costs a_taken, aI cI a_post 52 f_post, aI cI a_now 50 f_now, aI cI a_who 5 f_who] [(0, .ref h), (1, .int y_1), (2, .int y_2)] 4 [] := by
  intro n
  induction n with
  | zero =>
    intro y_1 y_2 f_who hs
    exact nn_ok hs
  | succ n ih =>
    intro y_1 y_2 f_who hs
    rw [LX9_freshOnes_4] at hs
    refine g_iload_n (pl := 2) C dX9_freshOnes_4 rfl rfl ?_
    refine g_aload_n (pl := 0) C dX9_freshOnes_5 rfl rfl ?_
    refine g_get C fX9_7 0 rfl rfl dX9_freshOnes_6 ?_
    refine g_iconst (v := (nI 2)) C dX9_freshOnes_9 rfl ?_
    refine g_iald C 1 rfl (vin_ok rfl) dX9_freshOnes_10 ?_
    refine g_icmp_ge (tgt := 38) C dX9_freshOnes_11 (by decide) (fun c1 => ?_) (fun c1 => ?_)
    · replace hs := vi_t hs c1
      refine g_iload_n (pl := 1) C dX9_freshOnes_38 rfl rfl ?_
      cases hs
      exact hR _ _ dX9_freshOnes_39
    · replace hs := vi_f hs c1
      refine g_aload_n (pl := 0) C dX9_freshOnes_14 rfl rfl ?_
      refine g_iload_n (pl := 2) C dX9_freshOnes_15 rfl rfl ?_
      obtain ⟨z2, e_z2, hs⟩ := vb_ok hs
      refine g_callV (ws' := [oX9 h a_post a_read a_now a_aside a_past f_undos a_kept f_keptMany a_sights f_sightMany a_text f_size f_at f_value a_weights a_tried f_above f_below f_paid a_row a_who a_order a_bestOrder a_costs a_taken, aI cI a_post 52 f_post, aI cI a_now 50 f_now, aI cI a_who 5 f_who]) (rest := []) (st' := [.int z2]) C mX9_233 q5_151 [.int y_2] (fun l D => cX9_isFresh_ct l D cI h a_post a_read a_now a_aside a_past a_kept a_sights a_text a_weights a_tried a_row a_who a_order a_bestOrder a_costs a_taken f_undos f_keptMany f_sightMany f_size f_at f_value f_above f_below f_paid f_now y_2 e_z2) ⟨⟨rfl, rfl⟩, Nat.le_of_ble_eq_true rfl, Nat.le_of_ble_eq_true rfl⟩ 0 rfl rfl rfl [0, 2] rfl rfl rfl rfl rfl (Nat.le_of_ble_eq_true rfl) (Nat.zero_le _) (Nat.zero_le _) rfl dX9_freshOnes_16 ?_
      refine g_if_eq (tgt := 32) C dX9_freshOnes_19 (by decide) (fun c3 => ?_) (fun c3 => ?_)
      · replace hs := vi_t hs c3
        obtain ⟨y4, e_y4, hs⟩ := vlet_ex hs
        refine g_iinc (pl := 2) (lv' := [(2, .int y4), (0, .ref h), (1, .int y_1)]) C dX9_freshOnes_32 rfl e_y4.symm (by decide) rfl ?_
        refine g_goto (tgt := 4) C dX9_freshOnes_35 (by decide) ?_
        refine g_sub [1, 2, 0] rfl ?_
        exact ih y_1 y4 f_who hs
      · replace hs := vi_f hs c3
        refine g_aload_n (pl := 0) C dX9_freshOnes_22 rfl rfl ?_
        refine g_get C fX9_43 0 rfl rfl dX9_freshOnes_23 ?_
        refine g_iload_n (pl := 1) C dX9_freshOnes_26 rfl rfl ?_
        refine g_iload_n (pl := 2) C dX9_freshOnes_27 rfl rfl ?_
        obtain ⟨b5, hs⟩ := vg_ok hs
        obtain ⟨u6, e_u6, hs⟩ := vlet_ex hs
        refine g_iast (ws' := [oX9 h a_post a_read a_now a_aside a_past f_undos a_kept f_keptMany a_sights f_sightMany a_text f_size f_at f_value a_weights a_tried f_above f_below f_paid a_row a_who a_order a_bestOrder a_costs a_taken, aI cI a_post 52 f_post, aI cI a_now 50 f_now, aI cI a_who 5 u6]) C 3 rfl (vin_ok b5) (by rw [e_u6]; rfl) dX9_freshOnes_28 ?_
        obtain ⟨y7, e_y7, hs⟩ := vlet_ex hs
        refine g_iinc (pl := 1) (lv' := [(1, .int y7), (0, .ref h), (2, .int y_2)]) C dX9_freshOnes_29 rfl e_y7.symm (by decide) rfl ?_
        obtain ⟨y8, e_y8, hs⟩ := vlet_ex hs
        refine g_iinc (pl := 2) (lv' := [(2, .int y8), (1, .int y7), (0, .ref h)]) C dX9_freshOnes_32 rfl e_y8.symm (by decide) rfl ?_
        refine g_goto (tgt := 4) C dX9_freshOnes_35 (by decide) ?_
        refine g_sub [2, 1, 0] rfl ?_
        exact ih y7 y8 u6 hs
set_option maxHeartbeats 4000000 in
set_option maxRecDepth 100000 in
theorem cX9_freshOnes_ct (l : Launch) (D : va_G) (cI : ClassId) (h : Nat) (a_post : Nat) (a_read : Nat) (a_now : Nat) (a_aside : Nat) (a_past : Nat) (a_kept : Nat) (a_sights : Nat) (a_text : Nat) (a_weights : Nat) (a_tried : Nat) (a_row : Nat) (a_who : Nat) (a_order : Nat) (a_bestOrder : Nat) (a_costs : Nat) (a_taken : Nat) (f_undos : Int32) (f_keptMany : Int32) (f_sightMany : Int32) (f_size : Int32) (f_at : Int32) (f_value : Int32) (f_above : Int64) (f_below : Int64) (f_paid : Int32) (f_post : Nat → Int32) (f_now : Nat → Int32) (f_who : Nat → Int32) {z : Int32 × (Nat → Int32)} (hs : sX9_freshOnes f_post f_now f_who = some z) : ct l yX9_freshOnes (.code yX9_freshOnes cX9_freshOnes 3 (some .int) :: gtb) rmX9_freshOnes D cI [.ref h] [oX9 h a_post a_read a_now a_aside a_past f_undos a_kept f_keptMany a_sights f_sightMany a_text f_size f_at f_value a_weights a_tried f_above f_below f_paid a_row a_who a_order a_bestOrder a_costs a_taken, aI cI a_post 52 f_post, aI cI a_now 50 f_now, aI cI a_who 5 f_who] (some (.int z.1)) [oX9 h a_post a_read a_now a_aside a_past f_undos a_kept f_keptMany a_sights f_sightMany a_text f_size f_at f_value a_weights a_tried f_above f_below f_paid a_row a_who a_order a_bestOrder a_costs a_taken, aI cI a_post 52 f_post, aI cI a_now 50 f_now, aI cI a_who 5 z.2] := by
  refine ct_ofI (own := RX9) (by decide +kernel) rfl (Nat.le_of_ble_eq_true rfl) (fun X C hD hR => ?_)
  unfold sX9_freshOnes at hs
  show gg cI X 3 0 0 [oX9 h a_post a_read a_now a_aside a_past f_undos a_kept f_keptMany a_sights f_sightMany a_text f_size f_at f_value a_weights a_tried f_above f_below f_paid a_row a_who a_order a_bestOrder a_costs a_taken, aI cI a_post 52 f_post, aI cI a_now 50 f_now, aI cI a_who 5 f_who] [(0, .ref h)] 0 []
  refine g_iconst (v := (nI 0)) C dX9_freshOnes_0 rfl ?_
  refine g_istore_n (lv' := [(1, .int (nI 0)), (0, .ref h)]) C dX9_freshOnes_1 rfl (by decide) rfl ?_
  refine g_iconst (v := (nI 0)) C dX9_freshOnes_2 rfl ?_
  refine g_istore_n (lv' := [(2, .int (nI 0)), (1, .int (nI 0)), (0, .ref h)]) C dX9_freshOnes_3 rfl (by decide) rfl ?_
  refine g_sub [2, 1, 0] rfl ?_
  exact LX9_freshOnes_4_w C h a_post a_read a_now a_aside a_past a_kept a_sights a_text a_weights a_tried a_row a_who a_order a_bestOrder a_costs a_taken f_undos f_keptMany f_sightMany f_size f_at f_value f_above f_below f_paid f_post f_now hR _ (nI 0) (nI 0) f_who hs
def LX9_deals_95 (y_1 : Int32) (f_order : Nat → Int32) (f_costs : Nat → Int32) (K129 : Int32 → Option (Int32 × (Nat → Int32) × (Nat → Int32) × (Nat → Int32) × (Nat → Int32) × (Nat → Int32) × (Nat → Int32))) : Nat → Int32 → Int32 → Option (Int32 × (Nat → Int32) × (Nat → Int32) × (Nat → Int32) × (Nat → Int32) × (Nat → Int32) × (Nat → Int32))
  | 0, _, _ => none
  | n + 1, y_4, y_5 =>
    vi (y_1 ≤ y_5) inferInstance (
      K129 y_4) (
      vg (vin y_5 5) (
      vg (vin (((nI 5) * y_5) + (f_order (Int32.toNatClampNeg y_5))) 25) (
      vlet (y_4 + (f_costs (Int32.toNatClampNeg (((nI 5) * y_5) + (f_order (Int32.toNatClampNeg y_5)))))) fun y4 =>
      vlet (y_5 + (nI 1)) fun y5 =>
      LX9_deals_95 y_1 f_order f_costs K129 n y4 y5)))
def LX9_deals_85 (y_1 : Int32) (f_weights : Nat → Int32) (f_tried : Nat → Int32) (f_row : Nat → Int32) (f_costs : Nat → Int32) : Nat → Int32 → Int32 → (Nat → Int32) → (Nat → Int32) → Option (Int32 × (Nat → Int32) × (Nat → Int32) × (Nat → Int32) × (Nat → Int32) × (Nat → Int32) × (Nat → Int32))
  | 0, _, _, _, _ => none
  | n + 1, y_2, y_3, f_order, f_bestOrder =>
    vi (y_3 = 0) inferInstance (
      some (y_2, f_weights, f_tried, f_row, f_order, f_bestOrder, f_costs)) (
      LX9_deals_95 y_1 f_order f_costs (fun (v7 : Int32) =>
          vi (y_2 ≤ v7) inferInstance (
            vb (sX9_nextOrder f_order y_1) fun z9 =>
            LX9_deals_85 y_1 f_weights f_tried f_row f_costs n y_2 z9.1 z9.2 f_bestOrder) (
            vb (sX9_copies 5 5 f_order f_bestOrder (nI 0) (nI 0) y_1) fun z10 =>
            vb (sX9_nextOrder f_order y_1) fun z11 =>
            LX9_deals_85 y_1 f_weights f_tried f_row f_costs n v7 z11.1 z11.2 z10)) vF (nI 0) (nI 0))
def LX9_deals_9 (y_1 : Int32) (y_2 : Int32) (f_post : Nat → Int32) (f_now : Nat → Int32) (f_who : Nat → Int32) (K69 : (Nat → Int32) → (Nat → Int32) → (Nat → Int32) → (Nat → Int32) → Option (Int32 × (Nat → Int32) × (Nat → Int32) × (Nat → Int32) × (Nat → Int32) × (Nat → Int32) × (Nat → Int32))) : Nat → Int32 → (Nat → Int32) → (Nat → Int32) → (Nat → Int32) → (Nat → Int32) → Option (Int32 × (Nat → Int32) × (Nat → Int32) × (Nat → Int32) × (Nat → Int32) × (Nat → Int32) × (Nat → Int32))
  | 0, _, _, _, _, _ => none
  | n + 1, y_3, f_weights, f_tried, f_row, f_costs =>
    vi (y_1 ≤ y_3) inferInstance (
      K69 f_weights f_tried f_row f_costs) (
      vg (vin y_2 5) (
      vg (vin y_3 5) (
      vg (vin ((nI 0) + (f_who (Int32.toNatClampNeg y_3))) 50) (
      vb (sX9_fewestFor f_post f_now f_weights f_tried f_row (f_who (Int32.toNatClampNeg y_2)) (f_now (Int32.toNatClampNeg ((nI 0) + (f_who (Int32.toNatClampNeg y_3)))))) fun z16 =>
      vi (z16.1 = (-4)) inferInstance (
        vg (vin (((nI 5) * y_2) + y_3) 25) (
        vlet (upd f_costs (Int32.toNatClampNeg (((nI 5) * y_2) + y_3)) (nI 9)) fun u22 =>
        vlet (y_3 + (nI 1)) fun y23 =>
        LX9_deals_9 y_1 y_2 f_post f_now f_who K69 n y23 z16.2.1 z16.2.2.1 z16.2.2.2 u22)) (
        vg (vin (((nI 5) * y_2) + y_3) 25) (
        vlet (upd f_costs (Int32.toNatClampNeg (((nI 5) * y_2) + y_3)) z16.1) fun u19 =>
        vlet (y_3 + (nI 1)) fun y20 =>
        LX9_deals_9 y_1 y_2 f_post f_now f_who K69 n y20 z16.2.1 z16.2.2.1 z16.2.2.2 u19))))))
def LX9_deals_2 (y_1 : Int32) (f_post : Nat → Int32) (f_now : Nat → Int32) (f_who : Nat → Int32) (f_order : Nat → Int32) (f_bestOrder : Nat → Int32) : Nat → Int32 → (Nat → Int32) → (Nat → Int32) → (Nat → Int32) → (Nat → Int32) → Option (Int32 × (Nat → Int32) × (Nat → Int32) × (Nat → Int32) × (Nat → Int32) × (Nat → Int32) × (Nat → Int32))
  | 0, _, _, _, _, _ => none
  | n + 1, y_2, f_weights, f_tried, f_row, f_costs =>
    vi (y_1 ≤ y_2) inferInstance (
      vb (sX9_firstOrder f_order y_1) fun z25 =>
      LX9_deals_85 y_1 f_weights f_tried f_row f_costs vF (nI 1000000) (nI 1) z25 f_bestOrder) (
      LX9_deals_9 y_1 y_2 f_post f_now f_who (fun (v26 : Nat → Int32) (v27 : Nat → Int32) (v28 : Nat → Int32) (v29 : Nat → Int32) =>
          vlet (y_2 + (nI 1)) fun y30 =>
          LX9_deals_2 y_1 f_post f_now f_who f_order f_bestOrder n y30 v26 v27 v28 v29) vF (nI 0) f_weights f_tried f_row f_costs)
def sX9_deals (f_post : Nat → Int32) (f_now : Nat → Int32) (f_weights : Nat → Int32) (f_tried : Nat → Int32) (f_row : Nat → Int32) (f_who : Nat → Int32) (f_order : Nat → Int32) (f_bestOrder : Nat → Int32) (f_costs : Nat → Int32) (x1 : Int32) : Option (Int32 × (Nat → Int32) × (Nat → Int32) × (Nat → Int32) × (Nat → Int32) × (Nat → Int32) × (Nat → Int32)) :=
  LX9_deals_2 x1 f_post f_now f_who f_order f_bestOrder vF (nI 0) f_weights f_tried f_row f_costs
abbrev rmX9_deals : Room := { frames := 6, cells := 0, slots := 0, locals := 147 }
set_option maxHeartbeats 4000000 in
set_option maxRecDepth 100000 in
theorem LX9_deals_95_w {cI : ClassId} {X : xT} (C : cx cI X 6 cX9_deals RX9 rmX9_deals) (h : Nat) (a_post : Nat) (a_read : Nat) (a_now : Nat) (a_aside : Nat) (a_past : Nat) (a_kept : Nat) (a_sights : Nat) (a_text : Nat) (a_weights : Nat) (a_tried : Nat) (a_row : Nat) (a_who : Nat) (a_order : Nat) (a_bestOrder : Nat) (a_costs : Nat) (a_taken : Nat) (f_undos : Int32) (f_keptMany : Int32) (f_sightMany : Int32) (f_size : Int32) (f_at : Int32) (f_value : Int32) (f_above : Int64) (f_below : Int64) (f_paid : Int32) (f_post : Nat → Int32) (f_now : Nat → Int32) (f_weights : Nat → Int32) (f_tried : Nat → Int32) (f_row : Nat → Int32) (f_who : Nat → Int32) (f_order : Nat → Int32) (f_bestOrder : Nat → Int32) (f_costs : Nat → Int32) (y_1 : Int32) (y_2 : Int32) {z : Int32 × (Nat → Int32) × (Nat → Int32) × (Nat → Int32) × (Nat → Int32) × (Nat → Int32) × (Nat → Int32)} (hR : ∀ (lv : List (Nat × Value)) (pc : Nat), decode cX9_deals pc = .ok (.ireturn, 1) → gg cI X 6 0 0 [oX9 h a_post a_read a_now a_aside a_past f_undos a_kept f_keptMany a_sights f_sightMany a_text f_size f_at f_value a_weights a_tried f_above f_below f_paid a_row a_who a_order a_bestOrder a_costs a_taken, aI cI a_post 52 f_post, aI cI a_now 50 f_now, aI cI a_weights 8 z.2.1, aI cI a_tried 8 z.2.2.1, aI cI a_row 3 z.2.2.2.1, aI cI a_who 5 f_who, aI cI a_order 5 z.2.2.2.2.1, aI cI a_bestOrder 5 z.2.2.2.2.2.1, aI cI a_costs 25 z.2.2.2.2.2.2] lv pc [.int z.1]) {K129 : Int32 → Option (Int32 × (Nat → Int32) × (Nat → Int32) × (Nat → Int32) × (Nat → Int32) × (Nat → Int32) × (Nat → Int32))} (hK129 : ∀ (k_4 : Int32), K129 k_4 = some z → gg cI X 6 0 0 [oX9 h a_post a_read a_now a_aside a_past f_undos a_kept f_keptMany a_sights f_sightMany a_text f_size f_at f_value a_weights a_tried f_above f_below f_paid a_row a_who a_order a_bestOrder a_costs a_taken, aI cI a_post 52 f_post, aI cI a_now 50 f_now, aI cI a_weights 8 f_weights, aI cI a_tried 8 f_tried, aI cI a_row 3 f_row, aI cI a_who 5 f_who, aI cI a_order 5 f_order, aI cI a_bestOrder 5 f_bestOrder, aI cI a_costs 25 f_costs] [(0, .ref h), (1, .int y_1), (2, .int y_2), (4, .int k_4)] 129 []) : ∀ (n : Nat) (y_4 : Int32) (y_5 : Int32), LX9_deals_95 y_1 f_order f_costs K129 n y_4 y_5 = some z → gg cI X 6 0 0 [oX9 h a_post a_read a_now a_aside a_past f_undos a_kept f_keptMany a_sights f_sightMany a_text f_size f_at f_value a_weights a_tried f_above f_below f_paid a_row a_who a_order a_bestOrder a_costs a_taken, aI cI a_post 52 f_post, aI cI a_now 50 f_now, aI cI a_weights 8 f_weights, aI cI a_tried 8 f_tried, aI cI a_row 3 f_row, aI cI a_who 5 f_who, aI cI a_order 5 f_order, aI cI a_bestOrder 5 f_bestOrder, aI cI a_costs 25 f_costs] [(0, .ref h), (1, .int y_1), (2, .int y_2), (4, .int y_4), (5, .int y_5)] 95 [] := by
  intro n
  induction n with
  | zero =>
    intro y_4 y_5 hs
    exact nn_ok hs
  | succ n ih =>
    intro y_4 y_5 hs
    rw [LX9_deals_95] at hs
    refine g_iload (pl := 4) C dX9_deals_95 rfl ?_
    refine g_iload_n (pl := 1) C dX9_deals_97 rfl rfl ?_
    refine g_icmp_ge (tgt := 129) C dX9_deals_98 (by decide) (fun c1 => ?_) (fun c1 => ?_)
    · replace hs := vi_t hs c1
      refine g_sub [0, 1, 2, 3] rfl ?_
      exact hK129 y_4 hs
    · replace hs := vi_f hs c1
      refine g_iload (pl := 3) C dX9_deals_101 rfl ?_
      refine g_aload_n (pl := 0) C dX9_deals_103 rfl rfl ?_
      refine g_get C fX9_52 0 rfl rfl dX9_deals_104 ?_
      refine g_iconst (v := (nI 5)) C dX9_deals_107 rfl ?_
      refine g_iload (pl := 4) C dX9_deals_108 rfl ?_
      refine g_imul C dX9_deals_110 ?_
      refine g_aload_n (pl := 0) C dX9_deals_111 rfl rfl ?_
      refine g_get C fX9_46 0 rfl rfl dX9_deals_112 ?_
      refine g_iload (pl := 4) C dX9_deals_115 rfl ?_
      obtain ⟨b2, hs⟩ := vg_ok hs
      refine g_iald C 7 rfl (vin_ok b2) dX9_deals_117 ?_
      refine g_iadd C dX9_deals_118 ?_
      obtain ⟨b3, hs⟩ := vg_ok hs
      refine g_iald C 9 rfl (vin_ok b3) dX9_deals_119 ?_
      refine g_iadd C dX9_deals_120 ?_
      obtain ⟨y4, e_y4, hs⟩ := vlet_ex hs
      refine g_topi e_y4 ?_
      refine g_istore (lv' := [(4, .int y4), (0, .ref h), (1, .int y_1), (2, .int y_2), (5, .int y_5)]) C dX9_deals_121 (by decide) rfl ?_
      obtain ⟨y5, e_y5, hs⟩ := vlet_ex hs
      refine g_iinc (pl := 4) (lv' := [(5, .int y5), (4, .int y4), (0, .ref h), (1, .int y_1), (2, .int y_2)]) C dX9_deals_123 rfl e_y5.symm (by decide) rfl ?_
      refine g_goto (tgt := 95) C dX9_deals_126 (by decide) ?_
      refine g_sub [2, 3, 4, 1, 0] rfl ?_
      exact ih y4 y5 hs
set_option maxHeartbeats 4000000 in
set_option maxRecDepth 100000 in
theorem LX9_deals_85_w {cI : ClassId} {X : xT} (C : cx cI X 6 cX9_deals RX9 rmX9_deals) (h : Nat) (a_post : Nat) (a_read : Nat) (a_now : Nat) (a_aside : Nat) (a_past : Nat) (a_kept : Nat) (a_sights : Nat) (a_text : Nat) (a_weights : Nat) (a_tried : Nat) (a_row : Nat) (a_who : Nat) (a_order : Nat) (a_bestOrder : Nat) (a_costs : Nat) (a_taken : Nat) (f_undos : Int32) (f_keptMany : Int32) (f_sightMany : Int32) (f_size : Int32) (f_at : Int32) (f_value : Int32) (f_above : Int64) (f_below : Int64) (f_paid : Int32) (f_post : Nat → Int32) (f_now : Nat → Int32) (f_weights : Nat → Int32) (f_tried : Nat → Int32) (f_row : Nat → Int32) (f_who : Nat → Int32) (f_costs : Nat → Int32) (y_1 : Int32) {z : Int32 × (Nat → Int32) × (Nat → Int32) × (Nat → Int32) × (Nat → Int32) × (Nat → Int32) × (Nat → Int32)} (hR : ∀ (lv : List (Nat × Value)) (pc : Nat), decode cX9_deals pc = .ok (.ireturn, 1) → gg cI X 6 0 0 [oX9 h a_post a_read a_now a_aside a_past f_undos a_kept f_keptMany a_sights f_sightMany a_text f_size f_at f_value a_weights a_tried f_above f_below f_paid a_row a_who a_order a_bestOrder a_costs a_taken, aI cI a_post 52 f_post, aI cI a_now 50 f_now, aI cI a_weights 8 z.2.1, aI cI a_tried 8 z.2.2.1, aI cI a_row 3 z.2.2.2.1, aI cI a_who 5 f_who, aI cI a_order 5 z.2.2.2.2.1, aI cI a_bestOrder 5 z.2.2.2.2.2.1, aI cI a_costs 25 z.2.2.2.2.2.2] lv pc [.int z.1]) : ∀ (n : Nat) (y_2 : Int32) (y_3 : Int32) (f_order : Nat → Int32) (f_bestOrder : Nat → Int32), LX9_deals_85 y_1 f_weights f_tried f_row f_costs n y_2 y_3 f_order f_bestOrder = some z → gg cI X 6 0 0 [oX9 h a_post a_read a_now a_aside a_past f_undos a_kept f_keptMany a_sights f_sightMany a_text f_size f_at f_value a_weights a_tried f_above f_below f_paid a_row a_who a_order a_bestOrder a_costs a_taken, aI cI a_post 52 f_post, aI cI a_now 50 f_now, aI cI a_weights 8 f_weights, aI cI a_tried 8 f_tried, aI cI a_row 3 f_row, aI cI a_who 5 f_who, aI cI a_order 5 f_order, aI cI a_bestOrder 5 f_bestOrder, aI cI a_costs 25 f_costs] [(0, .ref h), (1, .int y_1), (2, .int y_2), (3, .int y_3)] 85 [] := by
  intro n
  induction n with
  | zero =>
    intro y_2 y_3 f_order f_bestOrder hs
    exact nn_ok hs
  | succ n ih =>
    intro y_2 y_3 f_order f_bestOrder hs
    rw [LX9_deals_85] at hs
    refine g_iload_n (pl := 3) C dX9_deals_85 rfl rfl ?_
    refine g_if_eq (tgt := 161) C dX9_deals_86 (by decide) (fun c6 => ?_) (fun c6 => ?_)
    · replace hs := vi_t hs c6
      refine g_iload_n (pl := 2) C dX9_deals_161 rfl rfl ?_
      cases hs
      exact hR _ _ dX9_deals_162
    · replace hs := vi_f hs c6
      refine g_iconst (v := (nI 0)) C dX9_deals_89 rfl ?_
      refine g_istore (lv' := [(4, .int (nI 0)), (0, .ref h), (1, .int y_1), (2, .int y_2), (3, .int y_3)]) C dX9_deals_90 (by decide) rfl ?_
      refine g_iconst (v := (nI 0)) C dX9_deals_92 rfl ?_
      refine g_istore (lv' := [(5, .int (nI 0)), (4, .int (nI 0)), (0, .ref h), (1, .int y_1), (2, .int y_2), (3, .int y_3)]) C dX9_deals_93 (by decide) rfl ?_
      refine g_sub [2, 3, 4, 1, 0] rfl ?_
      refine LX9_deals_95_w C h a_post a_read a_now a_aside a_past a_kept a_sights a_text a_weights a_tried a_row a_who a_order a_bestOrder a_costs a_taken f_undos f_keptMany f_sightMany f_size f_at f_value f_above f_below f_paid f_post f_now f_weights f_tried f_row f_who f_order f_bestOrder f_costs y_1 y_2 hR ?_ _ (nI 0) (nI 0) hs
      · intro v7 hs
        refine g_iload (pl := 3) C dX9_deals_129 rfl ?_
        refine g_iload_n (pl := 2) C dX9_deals_131 rfl rfl ?_
        refine g_icmp_ge (tgt := 152) C dX9_deals_132 (by decide) (fun c8 => ?_) (fun c8 => ?_)
        · replace hs := vi_t hs c8
          refine g_aload_n (pl := 0) C dX9_deals_152 rfl rfl ?_
          refine g_iload_n (pl := 1) C dX9_deals_153 rfl rfl ?_
          obtain ⟨z9, e_z9, hs⟩ := vb_ok hs
          refine g_callV (ws' := [oX9 h a_post a_read a_now a_aside a_past f_undos a_kept f_keptMany a_sights f_sightMany a_text f_size f_at f_value a_weights a_tried f_above f_below f_paid a_row a_who a_order a_bestOrder a_costs a_taken, aI cI a_post 52 f_post, aI cI a_now 50 f_now, aI cI a_weights 8 f_weights, aI cI a_tried 8 f_tried, aI cI a_row 3 f_row, aI cI a_who 5 f_who, aI cI a_order 5 z9.2, aI cI a_bestOrder 5 f_bestOrder, aI cI a_costs 25 f_costs]) (rest := []) (st' := [.int z9.1]) C mX9_255 q5_200 [.int y_1] (fun l D => cX9_nextOrder_ct l D cI h a_post a_read a_now a_aside a_past a_kept a_sights a_text a_weights a_tried a_row a_who a_order a_bestOrder a_costs a_taken f_undos f_keptMany f_sightMany f_size f_at f_value f_above f_below f_paid f_order y_1 e_z9) ⟨⟨rfl, rfl⟩, Nat.le_of_ble_eq_true rfl, Nat.le_of_ble_eq_true rfl⟩ 0 rfl rfl rfl [0, 7] rfl rfl rfl rfl rfl (Nat.le_of_ble_eq_true rfl) (Nat.zero_le _) (Nat.zero_le _) rfl dX9_deals_154 ?_
          refine g_istore_n (lv' := [(3, .int z9.1), (0, .ref h), (1, .int y_1), (2, .int y_2), (4, .int v7)]) C dX9_deals_157 rfl (by decide) rfl ?_
          refine g_goto (tgt := 85) C dX9_deals_158 (by decide) ?_
          refine g_sub [1, 2, 3, 0] rfl ?_
          exact ih y_2 z9.1 z9.2 f_bestOrder hs
        · replace hs := vi_f hs c8
          refine g_iload (pl := 3) C dX9_deals_135 rfl ?_
          refine g_istore_n (lv' := [(2, .int v7), (0, .ref h), (1, .int y_1), (4, .int v7)]) C dX9_deals_137 rfl (by decide) rfl ?_
          refine g_aload_n (pl := 1) C dX9_deals_138 rfl rfl ?_
          refine g_get C fX9_46 0 rfl rfl dX9_deals_139 ?_
          refine g_iconst (v := (nI 0)) C dX9_deals_142 rfl ?_
          refine g_aload_n (pl := 1) C dX9_deals_143 rfl rfl ?_
          refine g_get C fX9_49 0 rfl rfl dX9_deals_144 ?_
          refine g_iconst (v := (nI 0)) C dX9_deals_147 rfl ?_
          refine g_iload_n (pl := 2) C dX9_deals_148 rfl rfl ?_
          obtain ⟨z10, e_z10, hs⟩ := vb_ok hs
          refine g_callS (ws' := [oX9 h a_post a_read a_now a_aside a_past f_undos a_kept f_keptMany a_sights f_sightMany a_text f_size f_at f_value a_weights a_tried f_above f_below f_paid a_row a_who a_order a_bestOrder a_costs a_taken, aI cI a_post 52 f_post, aI cI a_now 50 f_now, aI cI a_weights 8 f_weights, aI cI a_tried 8 f_tried, aI cI a_row 3 f_row, aI cI a_who 5 f_who, aI cI a_order 5 f_order, aI cI a_bestOrder 5 z10, aI cI a_costs 25 f_costs]) (rest := []) (st' := []) C mX9_148 q5_29 [.ref a_order, .int (nI 0), .ref a_bestOrder, .int (nI 0), .int y_1] (fun l D => cX9_copies_ct l D cI a_order a_bestOrder 5 5 f_order f_bestOrder (nI 0) (nI 0) y_1 e_z10) ⟨⟨rfl, rfl⟩, Nat.le_of_ble_eq_true rfl, Nat.le_of_ble_eq_true rfl⟩ rfl [7, 8] rfl rfl rfl rfl rfl (Nat.le_of_ble_eq_true rfl) (Nat.zero_le _) (Nat.zero_le _) rfl dX9_deals_149 ?_
          refine g_aload_n (pl := 1) C dX9_deals_152 rfl rfl ?_
          refine g_iload_n (pl := 2) C dX9_deals_153 rfl rfl ?_
          obtain ⟨z11, e_z11, hs⟩ := vb_ok hs
          refine g_callV (ws' := [oX9 h a_post a_read a_now a_aside a_past f_undos a_kept f_keptMany a_sights f_sightMany a_text f_size f_at f_value a_weights a_tried f_above f_below f_paid a_row a_who a_order a_bestOrder a_costs a_taken, aI cI a_post 52 f_post, aI cI a_now 50 f_now, aI cI a_weights 8 f_weights, aI cI a_tried 8 f_tried, aI cI a_row 3 f_row, aI cI a_who 5 f_who, aI cI a_order 5 z11.2, aI cI a_bestOrder 5 z10, aI cI a_costs 25 f_costs]) (rest := []) (st' := [.int z11.1]) C mX9_255 q5_200 [.int y_1] (fun l D => cX9_nextOrder_ct l D cI h a_post a_read a_now a_aside a_past a_kept a_sights a_text a_weights a_tried a_row a_who a_order a_bestOrder a_costs a_taken f_undos f_keptMany f_sightMany f_size f_at f_value f_above f_below f_paid f_order y_1 e_z11) ⟨⟨rfl, rfl⟩, Nat.le_of_ble_eq_true rfl, Nat.le_of_ble_eq_true rfl⟩ 0 rfl rfl rfl [0, 7] rfl rfl rfl rfl rfl (Nat.le_of_ble_eq_true rfl) (Nat.zero_le _) (Nat.zero_le _) rfl dX9_deals_154 ?_
          refine g_istore_n (lv' := [(3, .int z11.1), (2, .int v7), (0, .ref h), (1, .int y_1), (4, .int v7)]) C dX9_deals_157 rfl (by decide) rfl ?_
          refine g_goto (tgt := 85) C dX9_deals_158 (by decide) ?_
          refine g_sub [2, 3, 1, 0] rfl ?_
          exact ih v7 z11.1 z11.2 z10 hs
set_option maxHeartbeats 4000000 in
set_option maxRecDepth 100000 in
theorem LX9_deals_9_w {cI : ClassId} {X : xT} (C : cx cI X 6 cX9_deals RX9 rmX9_deals) (h : Nat) (a_post : Nat) (a_read : Nat) (a_now : Nat) (a_aside : Nat) (a_past : Nat) (a_kept : Nat) (a_sights : Nat) (a_text : Nat) (a_weights : Nat) (a_tried : Nat) (a_row : Nat) (a_who : Nat) (a_order : Nat) (a_bestOrder : Nat) (a_costs : Nat) (a_taken : Nat) (f_undos : Int32) (f_keptMany : Int32) (f_sightMany : Int32) (f_size : Int32) (f_at : Int32) (f_value : Int32) (f_above : Int64) (f_below : Int64) (f_paid : Int32) (f_post : Nat → Int32) (f_now : Nat → Int32) (f_who : Nat → Int32) (f_order : Nat → Int32) (f_bestOrder : Nat → Int32) (y_1 : Int32) (y_2 : Int32) {z : Int32 × (Nat → Int32) × (Nat → Int32) × (Nat → Int32) × (Nat → Int32) × (Nat → Int32) × (Nat → Int32)} (hR : ∀ (lv : List (Nat × Value)) (pc : Nat), decode cX9_deals pc = .ok (.ireturn, 1) → gg cI X 6 0 0 [oX9 h a_post a_read a_now a_aside a_past f_undos a_kept f_keptMany a_sights f_sightMany a_text f_size f_at f_value a_weights a_tried f_above f_below f_paid a_row a_who a_order a_bestOrder a_costs a_taken, aI cI a_post 52 f_post, aI cI a_now 50 f_now, aI cI a_weights 8 z.2.1, aI cI a_tried 8 z.2.2.1, aI cI a_row 3 z.2.2.2.1, aI cI a_who 5 f_who, aI cI a_order 5 z.2.2.2.2.1, aI cI a_bestOrder 5 z.2.2.2.2.2.1, aI cI a_costs 25 z.2.2.2.2.2.2] lv pc [.int z.1]) {K69 : (Nat → Int32) → (Nat → Int32) → (Nat → Int32) → (Nat → Int32) → Option (Int32 × (Nat → Int32) × (Nat → Int32) × (Nat → Int32) × (Nat → Int32) × (Nat → Int32) × (Nat → Int32))} (hK69 : ∀ (kf_weights : Nat → Int32) (kf_tried : Nat → Int32) (kf_row : Nat → Int32) (kf_costs : Nat → Int32), K69 kf_weights kf_tried kf_row kf_costs = some z → gg cI X 6 0 0 [oX9 h a_post a_read a_now a_aside a_past f_undos a_kept f_keptMany a_sights f_sightMany a_text f_size f_at f_value a_weights a_tried f_above f_below f_paid a_row a_who a_order a_bestOrder a_costs a_taken, aI cI a_post 52 f_post, aI cI a_now 50 f_now, aI cI a_weights 8 kf_weights, aI cI a_tried 8 kf_tried, aI cI a_row 3 kf_row, aI cI a_who 5 f_who, aI cI a_order 5 f_order, aI cI a_bestOrder 5 f_bestOrder, aI cI a_costs 25 kf_costs] [(0, .ref h), (1, .int y_1), (2, .int y_2)] 69 []) : ∀ (n : Nat) (y_3 : Int32) (f_weights : Nat → Int32) (f_tried : Nat → Int32) (f_row : Nat → Int32) (f_costs : Nat → Int32), LX9_deals_9 y_1 y_2 f_post f_now f_who K69 n y_3 f_weights f_tried f_row f_costs = some z → gg cI X 6 0 0 [oX9 h a_post a_read a_now a_aside a_past f_undos a_kept f_keptMany a_sights f_sightMany a_text f_size f_at f_value a_weights a_tried f_above f_below f_paid a_row a_who a_order a_bestOrder a_costs a_taken, aI cI a_post 52 f_post, aI cI a_now 50 f_now, aI cI a_weights 8 f_weights, aI cI a_tried 8 f_tried, aI cI a_row 3 f_row, aI cI a_who 5 f_who, aI cI a_order 5 f_order, aI cI a_bestOrder 5 f_bestOrder, aI cI a_costs 25 f_costs] [(0, .ref h), (1, .int y_1), (2, .int y_2), (3, .int y_3)] 9 [] := by
  intro n
  induction n with
  | zero =>
    intro y_3 f_weights f_tried f_row f_costs hs
    exact nn_ok hs
  | succ n ih =>
    intro y_3 f_weights f_tried f_row f_costs hs
    rw [LX9_deals_9] at hs
    refine g_iload_n (pl := 3) C dX9_deals_9 rfl rfl ?_
    refine g_iload_n (pl := 1) C dX9_deals_10 rfl rfl ?_
    refine g_icmp_ge (tgt := 69) C dX9_deals_11 (by decide) (fun c12 => ?_) (fun c12 => ?_)
    · replace hs := vi_t hs c12
      refine g_sub [0, 1, 2] rfl ?_
      exact hK69 f_weights f_tried f_row f_costs hs
    · replace hs := vi_f hs c12
      refine g_aload_n (pl := 0) C dX9_deals_14 rfl rfl ?_
      refine g_aload_n (pl := 0) C dX9_deals_15 rfl rfl ?_
      refine g_get C fX9_43 0 rfl rfl dX9_deals_16 ?_
      refine g_iload_n (pl := 2) C dX9_deals_19 rfl rfl ?_
      obtain ⟨b13, hs⟩ := vg_ok hs
      refine g_iald C 6 rfl (vin_ok b13) dX9_deals_20 ?_
      refine g_aload_n (pl := 0) C dX9_deals_21 rfl rfl ?_
      refine g_get C fX9_16 0 rfl rfl dX9_deals_22 ?_
      refine g_iconst (v := (nI 0)) C dX9_deals_25 rfl ?_
      refine g_aload_n (pl := 0) C dX9_deals_26 rfl rfl ?_
      refine g_get C fX9_43 0 rfl rfl dX9_deals_27 ?_
      refine g_iload_n (pl := 3) C dX9_deals_30 rfl rfl ?_
      obtain ⟨b14, hs⟩ := vg_ok hs
      refine g_iald C 6 rfl (vin_ok b14) dX9_deals_31 ?_
      refine g_iadd C dX9_deals_32 ?_
      obtain ⟨b15, hs⟩ := vg_ok hs
      refine g_iald C 2 rfl (vin_ok b15) dX9_deals_33 ?_
      obtain ⟨z16, e_z16, hs⟩ := vb_ok hs
      refine g_callV (ws' := [oX9 h a_post a_read a_now a_aside a_past f_undos a_kept f_keptMany a_sights f_sightMany a_text f_size f_at f_value a_weights a_tried f_above f_below f_paid a_row a_who a_order a_bestOrder a_costs a_taken, aI cI a_post 52 f_post, aI cI a_now 50 f_now, aI cI a_weights 8 z16.2.1, aI cI a_tried 8 z16.2.2.1, aI cI a_row 3 z16.2.2.2, aI cI a_who 5 f_who, aI cI a_order 5 f_order, aI cI a_bestOrder 5 f_bestOrder, aI cI a_costs 25 f_costs]) (rest := []) (st' := [.int z16.1]) C mX9_246 q5_163 [.int (f_who (Int32.toNatClampNeg y_2)), .int (f_now (Int32.toNatClampNeg ((nI 0) + (f_who (Int32.toNatClampNeg y_3)))))] (fun l D => cX9_fewestFor_ct l D cI h a_post a_read a_now a_aside a_past a_kept a_sights a_text a_weights a_tried a_row a_who a_order a_bestOrder a_costs a_taken f_undos f_keptMany f_sightMany f_size f_at f_value f_above f_below f_paid f_post f_now f_weights f_tried f_row (f_who (Int32.toNatClampNeg y_2)) (f_now (Int32.toNatClampNeg ((nI 0) + (f_who (Int32.toNatClampNeg y_3))))) e_z16) ⟨⟨rfl, rfl⟩, Nat.le_of_ble_eq_true rfl, Nat.le_of_ble_eq_true rfl⟩ 0 rfl rfl rfl [0, 1, 2, 3, 4, 5] rfl rfl rfl rfl rfl (Nat.le_of_ble_eq_true rfl) (Nat.zero_le _) (Nat.zero_le _) rfl dX9_deals_34 ?_
      refine g_istore (lv' := [(4, .int z16.1), (0, .ref h), (1, .int y_1), (2, .int y_2), (3, .int y_3)]) C dX9_deals_37 (by decide) rfl ?_
      refine g_aload_n (pl := 1) C dX9_deals_39 rfl rfl ?_
      refine g_get C fX9_52 0 rfl rfl dX9_deals_40 ?_
      refine g_iconst (v := (nI 5)) C dX9_deals_43 rfl ?_
      refine g_iload_n (pl := 3) C dX9_deals_44 rfl rfl ?_
      refine g_imul C dX9_deals_45 ?_
      refine g_iload_n (pl := 4) C dX9_deals_46 rfl rfl ?_
      refine g_iadd C dX9_deals_47 ?_
      refine g_iload (pl := 0) C dX9_deals_48 rfl ?_
      refine g_bipush (v := (-4)) C dX9_deals_50 rfl ?_
      refine g_icmp_ne (tgt := 60) C dX9_deals_52 (by decide) (fun c17 => ?_) (fun c17 => ?_)
      · replace hs := vi_f hs c17
        refine g_iload (pl := 0) C dX9_deals_60 rfl ?_
        obtain ⟨b18, hs⟩ := vg_ok hs
        obtain ⟨u19, e_u19, hs⟩ := vlet_ex hs
        refine g_iast (ws' := [oX9 h a_post a_read a_now a_aside a_past f_undos a_kept f_keptMany a_sights f_sightMany a_text f_size f_at f_value a_weights a_tried f_above f_below f_paid a_row a_who a_order a_bestOrder a_costs a_taken, aI cI a_post 52 f_post, aI cI a_now 50 f_now, aI cI a_weights 8 z16.2.1, aI cI a_tried 8 z16.2.2.1, aI cI a_row 3 z16.2.2.2, aI cI a_who 5 f_who, aI cI a_order 5 f_order, aI cI a_bestOrder 5 f_bestOrder, aI cI a_costs 25 u19]) C 9 rfl (vin_ok b18) (by rw [e_u19]; rfl) dX9_deals_62 ?_
        obtain ⟨y20, e_y20, hs⟩ := vlet_ex hs
        refine g_iinc (pl := 4) (lv' := [(3, .int y20), (4, .int z16.1), (0, .ref h), (1, .int y_1), (2, .int y_2)]) C dX9_deals_63 rfl e_y20.symm (by decide) rfl ?_
        refine g_goto (tgt := 9) C dX9_deals_66 (by decide) ?_
        refine g_sub [2, 3, 4, 0] rfl ?_
        exact ih y20 z16.2.1 z16.2.2.1 z16.2.2.2 u19 hs
      · replace hs := vi_t hs c17
        refine g_bipush (v := (nI 9)) C dX9_deals_55 rfl ?_
        refine g_goto (tgt := 62) C dX9_deals_57 (by decide) ?_
        obtain ⟨b21, hs⟩ := vg_ok hs
        obtain ⟨u22, e_u22, hs⟩ := vlet_ex hs
        refine g_iast (ws' := [oX9 h a_post a_read a_now a_aside a_past f_undos a_kept f_keptMany a_sights f_sightMany a_text f_size f_at f_value a_weights a_tried f_above f_below f_paid a_row a_who a_order a_bestOrder a_costs a_taken, aI cI a_post 52 f_post, aI cI a_now 50 f_now, aI cI a_weights 8 z16.2.1, aI cI a_tried 8 z16.2.2.1, aI cI a_row 3 z16.2.2.2, aI cI a_who 5 f_who, aI cI a_order 5 f_order, aI cI a_bestOrder 5 f_bestOrder, aI cI a_costs 25 u22]) C 9 rfl (vin_ok b21) (by rw [e_u22]; rfl) dX9_deals_62 ?_
        obtain ⟨y23, e_y23, hs⟩ := vlet_ex hs
        refine g_iinc (pl := 4) (lv' := [(3, .int y23), (4, .int z16.1), (0, .ref h), (1, .int y_1), (2, .int y_2)]) C dX9_deals_63 rfl e_y23.symm (by decide) rfl ?_
        refine g_goto (tgt := 9) C dX9_deals_66 (by decide) ?_
        refine g_sub [2, 3, 4, 0] rfl ?_
        exact ih y23 z16.2.1 z16.2.2.1 z16.2.2.2 u22 hs
set_option maxHeartbeats 4000000 in
set_option maxRecDepth 100000 in
theorem LX9_deals_2_w {cI : ClassId} {X : xT} (C : cx cI X 6 cX9_deals RX9 rmX9_deals) (h : Nat) (a_post : Nat) (a_read : Nat) (a_now : Nat) (a_aside : Nat) (a_past : Nat) (a_kept : Nat) (a_sights : Nat) (a_text : Nat) (a_weights : Nat) (a_tried : Nat) (a_row : Nat) (a_who : Nat) (a_order : Nat) (a_bestOrder : Nat) (a_costs : Nat) (a_taken : Nat) (f_undos : Int32) (f_keptMany : Int32) (f_sightMany : Int32) (f_size : Int32) (f_at : Int32) (f_value : Int32) (f_above : Int64) (f_below : Int64) (f_paid : Int32) (f_post : Nat → Int32) (f_now : Nat → Int32) (f_who : Nat → Int32) (f_order : Nat → Int32) (f_bestOrder : Nat → Int32) (y_1 : Int32) {z : Int32 × (Nat → Int32) × (Nat → Int32) × (Nat → Int32) × (Nat → Int32) × (Nat → Int32) × (Nat → Int32)} (hR : ∀ (lv : List (Nat × Value)) (pc : Nat), decode cX9_deals pc = .ok (.ireturn, 1) → gg cI X 6 0 0 [oX9 h a_post a_read a_now a_aside a_past f_undos a_kept f_keptMany a_sights f_sightMany a_text f_size f_at f_value a_weights a_tried f_above f_below f_paid a_row a_who a_order a_bestOrder a_costs a_taken, aI cI a_post 52 f_post, aI cI a_now 50 f_now, aI cI a_weights 8 z.2.1, aI cI a_tried 8 z.2.2.1, aI cI a_row 3 z.2.2.2.1, aI cI a_who 5 f_who, aI cI a_order 5 z.2.2.2.2.1, aI cI a_bestOrder 5 z.2.2.2.2.2.1, aI cI a_costs 25 z.2.2.2.2.2.2] lv pc [.int z.1]) : ∀ (n : Nat) (y_2 : Int32) (f_weights : Nat → Int32) (f_tried : Nat → Int32) (f_row : Nat → Int32) (f_costs : Nat → Int32), LX9_deals_2 y_1 f_post f_now f_who f_order f_bestOrder n y_2 f_weights f_tried f_row f_costs = some z → gg cI X 6 0 0 [oX9 h a_post a_read a_now a_aside a_past f_undos a_kept f_keptMany a_sights f_sightMany a_text f_size f_at f_value a_weights a_tried f_above f_below f_paid a_row a_who a_order a_bestOrder a_costs a_taken, aI cI a_post 52 f_post, aI cI a_now 50 f_now, aI cI a_weights 8 f_weights, aI cI a_tried 8 f_tried, aI cI a_row 3 f_row, aI cI a_who 5 f_who, aI cI a_order 5 f_order, aI cI a_bestOrder 5 f_bestOrder, aI cI a_costs 25 f_costs] [(0, .ref h), (1, .int y_1), (2, .int y_2)] 2 [] := by
  intro n
  induction n with
  | zero =>
    intro y_2 f_weights f_tried f_row f_costs hs
    exact nn_ok hs
  | succ n ih =>
    intro y_2 f_weights f_tried f_row f_costs hs
    rw [LX9_deals_2] at hs
    refine g_iload_n (pl := 2) C dX9_deals_2 rfl rfl ?_
    refine g_iload_n (pl := 1) C dX9_deals_3 rfl rfl ?_
    refine g_icmp_ge (tgt := 75) C dX9_deals_4 (by decide) (fun c24 => ?_) (fun c24 => ?_)
    · replace hs := vi_t hs c24
      refine g_ldc (v := (nI 1000000)) C q5_192 dX9_deals_75 ?_
      refine g_istore_n (lv' := [(2, .int (nI 1000000)), (0, .ref h), (1, .int y_1)]) C dX9_deals_77 rfl (by decide) rfl ?_
      refine g_aload_n (pl := 1) C dX9_deals_78 rfl rfl ?_
      refine g_iload_n (pl := 2) C dX9_deals_79 rfl rfl ?_
      obtain ⟨z25, e_z25, hs⟩ := vb_ok hs
      refine g_callV (ws' := [oX9 h a_post a_read a_now a_aside a_past f_undos a_kept f_keptMany a_sights f_sightMany a_text f_size f_at f_value a_weights a_tried f_above f_below f_paid a_row a_who a_order a_bestOrder a_costs a_taken, aI cI a_post 52 f_post, aI cI a_now 50 f_now, aI cI a_weights 8 f_weights, aI cI a_tried 8 f_tried, aI cI a_row 3 f_row, aI cI a_who 5 f_who, aI cI a_order 5 z25, aI cI a_bestOrder 5 f_bestOrder, aI cI a_costs 25 f_costs]) (rest := []) (st' := []) C mX9_251 q5_196 [.int y_1] (fun l D => cX9_firstOrder_ct l D cI h a_post a_read a_now a_aside a_past a_kept a_sights a_text a_weights a_tried a_row a_who a_order a_bestOrder a_costs a_taken f_undos f_keptMany f_sightMany f_size f_at f_value f_above f_below f_paid f_order y_1 e_z25) ⟨⟨rfl, rfl⟩, Nat.le_of_ble_eq_true rfl, Nat.le_of_ble_eq_true rfl⟩ 0 rfl rfl rfl [0, 7] rfl rfl rfl rfl rfl (Nat.le_of_ble_eq_true rfl) (Nat.zero_le _) (Nat.zero_le _) rfl dX9_deals_80 ?_
      refine g_iconst (v := (nI 1)) C dX9_deals_83 rfl ?_
      refine g_istore_n (lv' := [(3, .int (nI 1)), (2, .int (nI 1000000)), (0, .ref h), (1, .int y_1)]) C dX9_deals_84 rfl (by decide) rfl ?_
      refine g_sub [2, 3, 1, 0] rfl ?_
      exact LX9_deals_85_w C h a_post a_read a_now a_aside a_past a_kept a_sights a_text a_weights a_tried a_row a_who a_order a_bestOrder a_costs a_taken f_undos f_keptMany f_sightMany f_size f_at f_value f_above f_below f_paid f_post f_now f_weights f_tried f_row f_who f_costs y_1 hR _ (nI 1000000) (nI 1) z25 f_bestOrder hs
    · replace hs := vi_f hs c24
      refine g_iconst (v := (nI 0)) C dX9_deals_7 rfl ?_
      refine g_istore_n (lv' := [(3, .int (nI 0)), (0, .ref h), (1, .int y_1), (2, .int y_2)]) C dX9_deals_8 rfl (by decide) rfl ?_
      refine g_sub [1, 2, 3, 0] rfl ?_
      refine LX9_deals_9_w C h a_post a_read a_now a_aside a_past a_kept a_sights a_text a_weights a_tried a_row a_who a_order a_bestOrder a_costs a_taken f_undos f_keptMany f_sightMany f_size f_at f_value f_above f_below f_paid f_post f_now f_who f_order f_bestOrder y_1 y_2 hR ?_ _ (nI 0) f_weights f_tried f_row f_costs hs
      · intro v26 v27 v28 v29 hs
        obtain ⟨y30, e_y30, hs⟩ := vlet_ex hs
        refine g_iinc (pl := 2) (lv' := [(2, .int y30), (0, .ref h), (1, .int y_1)]) C dX9_deals_69 rfl e_y30.symm (by decide) rfl ?_
        refine g_goto (tgt := 2) C dX9_deals_72 (by decide) ?_
        refine g_sub [1, 2, 0] rfl ?_
        exact ih y30 v26 v27 v28 v29 hs
set_option maxHeartbeats 4000000 in
set_option maxRecDepth 100000 in
theorem cX9_deals_ct (l : Launch) (D : va_G) (cI : ClassId) (h : Nat) (a_post : Nat) (a_read : Nat) (a_now : Nat) (a_aside : Nat) (a_past : Nat) (a_kept : Nat) (a_sights : Nat) (a_text : Nat) (a_weights : Nat) (a_tried : Nat) (a_row : Nat) (a_who : Nat) (a_order : Nat) (a_bestOrder : Nat) (a_costs : Nat) (a_taken : Nat) (f_undos : Int32) (f_keptMany : Int32) (f_sightMany : Int32) (f_size : Int32) (f_at : Int32) (f_value : Int32) (f_above : Int64) (f_below : Int64) (f_paid : Int32) (f_post : Nat → Int32) (f_now : Nat → Int32) (f_weights : Nat → Int32) (f_tried : Nat → Int32) (f_row : Nat → Int32) (f_who : Nat → Int32) (f_order : Nat → Int32) (f_bestOrder : Nat → Int32) (f_costs : Nat → Int32) (x1 : Int32) {z : Int32 × (Nat → Int32) × (Nat → Int32) × (Nat → Int32) × (Nat → Int32) × (Nat → Int32) × (Nat → Int32)} (hs : sX9_deals f_post f_now f_weights f_tried f_row f_who f_order f_bestOrder f_costs x1 = some z) : ct l yX9_deals (.code yX9_deals cX9_deals 6 (some .int) :: gtb) rmX9_deals D cI [.ref h, .int x1] [oX9 h a_post a_read a_now a_aside a_past f_undos a_kept f_keptMany a_sights f_sightMany a_text f_size f_at f_value a_weights a_tried f_above f_below f_paid a_row a_who a_order a_bestOrder a_costs a_taken, aI cI a_post 52 f_post, aI cI a_now 50 f_now, aI cI a_weights 8 f_weights, aI cI a_tried 8 f_tried, aI cI a_row 3 f_row, aI cI a_who 5 f_who, aI cI a_order 5 f_order, aI cI a_bestOrder 5 f_bestOrder, aI cI a_costs 25 f_costs] (some (.int z.1)) [oX9 h a_post a_read a_now a_aside a_past f_undos a_kept f_keptMany a_sights f_sightMany a_text f_size f_at f_value a_weights a_tried f_above f_below f_paid a_row a_who a_order a_bestOrder a_costs a_taken, aI cI a_post 52 f_post, aI cI a_now 50 f_now, aI cI a_weights 8 z.2.1, aI cI a_tried 8 z.2.2.1, aI cI a_row 3 z.2.2.2.1, aI cI a_who 5 f_who, aI cI a_order 5 z.2.2.2.2.1, aI cI a_bestOrder 5 z.2.2.2.2.2.1, aI cI a_costs 25 z.2.2.2.2.2.2] := by
  refine ct_ofI (own := RX9) (by decide +kernel) rfl (Nat.le_of_ble_eq_true rfl) (fun X C hD hR => ?_)
  unfold sX9_deals at hs
  show gg cI X 6 0 0 [oX9 h a_post a_read a_now a_aside a_past f_undos a_kept f_keptMany a_sights f_sightMany a_text f_size f_at f_value a_weights a_tried f_above f_below f_paid a_row a_who a_order a_bestOrder a_costs a_taken, aI cI a_post 52 f_post, aI cI a_now 50 f_now, aI cI a_weights 8 f_weights, aI cI a_tried 8 f_tried, aI cI a_row 3 f_row, aI cI a_who 5 f_who, aI cI a_order 5 f_order, aI cI a_bestOrder 5 f_bestOrder, aI cI a_costs 25 f_costs] [(0, .ref h), (1, .int x1)] 0 []
  refine g_iconst (v := (nI 0)) C dX9_deals_0 rfl ?_
  refine g_istore_n (lv' := [(2, .int (nI 0)), (0, .ref h), (1, .int x1)]) C dX9_deals_1 rfl (by decide) rfl ?_
  refine g_sub [1, 2, 0] rfl ?_
  exact LX9_deals_2_w C h a_post a_read a_now a_aside a_past a_kept a_sights a_text a_weights a_tried a_row a_who a_order a_bestOrder a_costs a_taken f_undos f_keptMany f_sightMany f_size f_at f_value f_above f_below f_paid f_post f_now f_who f_order f_bestOrder x1 hR _ (nI 0) f_weights f_tried f_row f_costs hs
def LX9_send_33 (y_1 : Int32) (y_2 : Int32) (y_3 : Int32) (f_now : Nat → Int32) (f_weights : Nat → Int32) (f_tried : Nat → Int32) (f_row : Nat → Int32) (f_who : Nat → Int32) (f_order : Nat → Int32) (f_bestOrder : Nat → Int32) (f_costs : Nat → Int32) : Nat → Int32 → Int32 → Option (Int32 × (Nat → Int32) × (Nat → Int32) × (Nat → Int32) × (Nat → Int32) × (Nat → Int32) × (Nat → Int32) × (Nat → Int32))
  | 0, _, _ => none
  | n + 1, y_4, y_5 =>
    vi (y_2 ≤ y_5) inferInstance (
      vi (y_1 = (-1)) inferInstance (
        some (y_3, f_weights, f_tried, f_row, f_who, f_order, f_bestOrder, f_costs)) (
        some (y_4, f_weights, f_tried, f_row, f_who, f_order, f_bestOrder, f_costs))) (
      vg (vin y_5 5) (
      vi ((f_who (Int32.toNatClampNeg y_5)) = y_1) inferInstance (
        vg (vin y_5 5) (
        vg (vin (f_bestOrder (Int32.toNatClampNeg y_5)) 5) (
        vg (vin ((nI 0) + (f_who (Int32.toNatClampNeg (f_bestOrder (Int32.toNatClampNeg y_5))))) 50) (
        vlet (f_now (Int32.toNatClampNeg ((nI 0) + (f_who (Int32.toNatClampNeg (f_bestOrder (Int32.toNatClampNeg y_5))))))) fun y9 =>
        vlet (y_5 + (nI 1)) fun y10 =>
        LX9_send_33 y_1 y_2 y_3 f_now f_weights f_tried f_row f_who f_order f_bestOrder f_costs n y9 y10)))) (
        vlet (y_5 + (nI 1)) fun y5 =>
        LX9_send_33 y_1 y_2 y_3 f_now f_weights f_tried f_row f_who f_order f_bestOrder f_costs n y_4 y5)))
def sX9_send (f_post : Nat → Int32) (f_now : Nat → Int32) (f_weights : Nat → Int32) (f_tried : Nat → Int32) (f_row : Nat → Int32) (f_who : Nat → Int32) (f_order : Nat → Int32) (f_bestOrder : Nat → Int32) (f_costs : Nat → Int32) (x1 : Int32) : Option (Int32 × (Nat → Int32) × (Nat → Int32) × (Nat → Int32) × (Nat → Int32) × (Nat → Int32) × (Nat → Int32) × (Nat → Int32)) :=
  vi (x1 = (-1)) inferInstance (
    vb (sX9_freshOnes f_post f_now f_who) fun z12 =>
    vb (sX9_deals f_post f_now f_weights f_tried f_row z12.2 f_order f_bestOrder f_costs z12.1) fun z13 =>
    LX9_send_33 x1 z12.1 z13.1 f_now z13.2.1 z13.2.2.1 z13.2.2.2.1 z12.2 z13.2.2.2.2.1 z13.2.2.2.2.2.1 z13.2.2.2.2.2.2 vF (-4) (nI 0)) (
    vb (sX9_isActor f_post x1) fun z14 =>
    vi (z14 = 0) inferInstance (
      some ((-1), f_weights, f_tried, f_row, f_who, f_order, f_bestOrder, f_costs)) (
      vb (sX9_freshOnes f_post f_now f_who) fun z16 =>
      vb (sX9_deals f_post f_now f_weights f_tried f_row z16.2 f_order f_bestOrder f_costs z16.1) fun z17 =>
      LX9_send_33 x1 z16.1 z17.1 f_now z17.2.1 z17.2.2.1 z17.2.2.2.1 z16.2 z17.2.2.2.2.1 z17.2.2.2.2.2.1 z17.2.2.2.2.2.2 vF (-4) (nI 0)))
abbrev rmX9_send : Room := { frames := 7, cells := 0, slots := 0, locals := 172 }
set_option maxHeartbeats 4000000 in
set_option maxRecDepth 100000 in
theorem LX9_send_33_w {cI : ClassId} {X : xT} (C : cx cI X 6 cX9_send RX9 rmX9_send) (h : Nat) (a_post : Nat) (a_read : Nat) (a_now : Nat) (a_aside : Nat) (a_past : Nat) (a_kept : Nat) (a_sights : Nat) (a_text : Nat) (a_weights : Nat) (a_tried : Nat) (a_row : Nat) (a_who : Nat) (a_order : Nat) (a_bestOrder : Nat) (a_costs : Nat) (a_taken : Nat) (f_undos : Int32) (f_keptMany : Int32) (f_sightMany : Int32) (f_size : Int32) (f_at : Int32) (f_value : Int32) (f_above : Int64) (f_below : Int64) (f_paid : Int32) (f_post : Nat → Int32) (f_now : Nat → Int32) (f_weights : Nat → Int32) (f_tried : Nat → Int32) (f_row : Nat → Int32) (f_who : Nat → Int32) (f_order : Nat → Int32) (f_bestOrder : Nat → Int32) (f_costs : Nat → Int32) (y_1 : Int32) (y_2 : Int32) (y_3 : Int32) {z : Int32 × (Nat → Int32) × (Nat → Int32) × (Nat → Int32) × (Nat → Int32) × (Nat → Int32) × (Nat → Int32) × (Nat → Int32)} (hR : ∀ (lv : List (Nat × Value)) (pc : Nat), decode cX9_send pc = .ok (.ireturn, 1) → gg cI X 6 0 0 [oX9 h a_post a_read a_now a_aside a_past f_undos a_kept f_keptMany a_sights f_sightMany a_text f_size f_at f_value a_weights a_tried f_above f_below f_paid a_row a_who a_order a_bestOrder a_costs a_taken, aI cI a_post 52 f_post, aI cI a_now 50 f_now, aI cI a_weights 8 z.2.1, aI cI a_tried 8 z.2.2.1, aI cI a_row 3 z.2.2.2.1, aI cI a_who 5 z.2.2.2.2.1, aI cI a_order 5 z.2.2.2.2.2.1, aI cI a_bestOrder 5 z.2.2.2.2.2.2.1, aI cI a_costs 25 z.2.2.2.2.2.2.2] lv pc [.int z.1]) : ∀ (n : Nat) (y_4 : Int32) (y_5 : Int32), LX9_send_33 y_1 y_2 y_3 f_now f_weights f_tried f_row f_who f_order f_bestOrder f_costs n y_4 y_5 = some z → gg cI X 6 0 0 [oX9 h a_post a_read a_now a_aside a_past f_undos a_kept f_keptMany a_sights f_sightMany a_text f_size f_at f_value a_weights a_tried f_above f_below f_paid a_row a_who a_order a_bestOrder a_costs a_taken, aI cI a_post 52 f_post, aI cI a_now 50 f_now, aI cI a_weights 8 f_weights, aI cI a_tried 8 f_tried, aI cI a_row 3 f_row, aI cI a_who 5 f_who, aI cI a_order 5 f_order, aI cI a_bestOrder 5 f_bestOrder, aI cI a_costs 25 f_costs] [(0, .ref h), (1, .int y_1), (2, .int y_2), (3, .int y_3), (4, .int y_4), (5, .int y_5)] 33 [] := by
  intro n
  induction n with
  | zero =>
    intro y_4 y_5 hs
    exact nn_ok hs
  | succ n ih =>
    intro y_4 y_5 hs
    rw [LX9_send_33] at hs
    refine g_iload (pl := 5) C dX9_send_33 rfl ?_
    refine g_iload_n (pl := 2) C dX9_send_35 rfl rfl ?_
    refine g_icmp_ge (tgt := 82) C dX9_send_36 (by decide) (fun c1 => ?_) (fun c1 => ?_)
    · replace hs := vi_t hs c1
      refine g_iload_n (pl := 1) C dX9_send_82 rfl rfl ?_
      refine g_iconst (v := (-1)) C dX9_send_83 rfl ?_
      refine g_icmp_ne (tgt := 91) C dX9_send_84 (by decide) (fun c2 => ?_) (fun c2 => ?_)
      · replace hs := vi_f hs c2
        refine g_iload (pl := 4) C dX9_send_91 rfl ?_
        cases hs
        exact hR _ _ dX9_send_93
      · replace hs := vi_t hs c2
        refine g_iload_n (pl := 3) C dX9_send_87 rfl rfl ?_
        refine g_goto (tgt := 93) C dX9_send_88 (by decide) ?_
        cases hs
        exact hR _ _ dX9_send_93
    · replace hs := vi_f hs c1
      refine g_aload_n (pl := 0) C dX9_send_39 rfl rfl ?_
      refine g_get C fX9_43 0 rfl rfl dX9_send_40 ?_
      refine g_iload (pl := 5) C dX9_send_43 rfl ?_
      obtain ⟨b3, hs⟩ := vg_ok hs
      refine g_iald C 6 rfl (vin_ok b3) dX9_send_45 ?_
      refine g_iload_n (pl := 1) C dX9_send_46 rfl rfl ?_
      refine g_icmp_ne (tgt := 72) C dX9_send_47 (by decide) (fun c4 => ?_) (fun c4 => ?_)
      · replace hs := vi_f hs c4
        refine g_iload (pl := 4) C dX9_send_72 rfl ?_
        refine g_istore (lv' := [(4, .int y_4), (0, .ref h), (1, .int y_1), (2, .int y_2), (3, .int y_3), (5, .int y_5)]) C dX9_send_74 (by decide) rfl ?_
        obtain ⟨y5, e_y5, hs⟩ := vlet_ex hs
        refine g_iinc (pl := 5) (lv' := [(5, .int y5), (4, .int y_4), (0, .ref h), (1, .int y_1), (2, .int y_2), (3, .int y_3)]) C dX9_send_76 rfl e_y5.symm (by decide) rfl ?_
        refine g_goto (tgt := 33) C dX9_send_79 (by decide) ?_
        refine g_sub [2, 3, 4, 5, 1, 0] rfl ?_
        exact ih y_4 y5 hs
      · replace hs := vi_t hs c4
        refine g_aload_n (pl := 0) C dX9_send_50 rfl rfl ?_
        refine g_get C fX9_16 0 rfl rfl dX9_send_51 ?_
        refine g_iconst (v := (nI 0)) C dX9_send_54 rfl ?_
        refine g_aload_n (pl := 0) C dX9_send_55 rfl rfl ?_
        refine g_get C fX9_43 0 rfl rfl dX9_send_56 ?_
        refine g_aload_n (pl := 0) C dX9_send_59 rfl rfl ?_
        refine g_get C fX9_49 0 rfl rfl dX9_send_60 ?_
        refine g_iload (pl := 5) C dX9_send_63 rfl ?_
        obtain ⟨b6, hs⟩ := vg_ok hs
        refine g_iald C 8 rfl (vin_ok b6) dX9_send_65 ?_
        obtain ⟨b7, hs⟩ := vg_ok hs
        refine g_iald C 6 rfl (vin_ok b7) dX9_send_66 ?_
        refine g_iadd C dX9_send_67 ?_
        obtain ⟨b8, hs⟩ := vg_ok hs
        refine g_iald C 2 rfl (vin_ok b8) dX9_send_68 ?_
        refine g_goto (tgt := 74) C dX9_send_69 (by decide) ?_
        obtain ⟨y9, e_y9, hs⟩ := vlet_ex hs
        refine g_topi e_y9 ?_
        refine g_istore (lv' := [(4, .int y9), (0, .ref h), (1, .int y_1), (2, .int y_2), (3, .int y_3), (5, .int y_5)]) C dX9_send_74 (by decide) rfl ?_
        obtain ⟨y10, e_y10, hs⟩ := vlet_ex hs
        refine g_iinc (pl := 5) (lv' := [(5, .int y10), (4, .int y9), (0, .ref h), (1, .int y_1), (2, .int y_2), (3, .int y_3)]) C dX9_send_76 rfl e_y10.symm (by decide) rfl ?_
        refine g_goto (tgt := 33) C dX9_send_79 (by decide) ?_
        refine g_sub [2, 3, 4, 5, 1, 0] rfl ?_
        exact ih y9 y10 hs
set_option maxHeartbeats 4000000 in
set_option maxRecDepth 100000 in
theorem cX9_send_ct (l : Launch) (D : va_G) (cI : ClassId) (h : Nat) (a_post : Nat) (a_read : Nat) (a_now : Nat) (a_aside : Nat) (a_past : Nat) (a_kept : Nat) (a_sights : Nat) (a_text : Nat) (a_weights : Nat) (a_tried : Nat) (a_row : Nat) (a_who : Nat) (a_order : Nat) (a_bestOrder : Nat) (a_costs : Nat) (a_taken : Nat) (f_undos : Int32) (f_keptMany : Int32) (f_sightMany : Int32) (f_size : Int32) (f_at : Int32) (f_value : Int32) (f_above : Int64) (f_below : Int64) (f_paid : Int32) (f_post : Nat → Int32) (f_now : Nat → Int32) (f_weights : Nat → Int32) (f_tried : Nat → Int32) (f_row : Nat → Int32) (f_who : Nat → Int32) (f_order : Nat → Int32) (f_bestOrder : Nat → Int32) (f_costs : Nat → Int32) (x1 : Int32) {z : Int32 × (Nat → Int32) × (Nat → Int32) × (Nat → Int32) × (Nat → Int32) × (Nat → Int32) × (Nat → Int32) × (Nat → Int32)} (hs : sX9_send f_post f_now f_weights f_tried f_row f_who f_order f_bestOrder f_costs x1 = some z) : ct l yX9_send (.code yX9_send cX9_send 6 (some .int) :: gtb) rmX9_send D cI [.ref h, .int x1] [oX9 h a_post a_read a_now a_aside a_past f_undos a_kept f_keptMany a_sights f_sightMany a_text f_size f_at f_value a_weights a_tried f_above f_below f_paid a_row a_who a_order a_bestOrder a_costs a_taken, aI cI a_post 52 f_post, aI cI a_now 50 f_now, aI cI a_weights 8 f_weights, aI cI a_tried 8 f_tried, aI cI a_row 3 f_row, aI cI a_who 5 f_who, aI cI a_order 5 f_order, aI cI a_bestOrder 5 f_bestOrder, aI cI a_costs 25 f_costs] (some (.int z.1)) [oX9 h a_post a_read a_now a_aside a_past f_undos a_kept f_keptMany a_sights f_sightMany a_text f_size f_at f_value a_weights a_tried f_above f_below f_paid a_row a_who a_order a_bestOrder a_costs a_taken, aI cI a_post 52 f_post, aI cI a_now 50 f_now, aI cI a_weights 8 z.2.1, aI cI a_tried 8 z.2.2.1, aI cI a_row 3 z.2.2.2.1, aI cI a_who 5 z.2.2.2.2.1, aI cI a_order 5 z.2.2.2.2.2.1, aI cI a_bestOrder 5 z.2.2.2.2.2.2.1, aI cI a_costs 25 z.2.2.2.2.2.2.2] := by
  refine ct_ofI (own := RX9) (by decide +kernel) rfl (Nat.le_of_ble_eq_true rfl) (fun X C hD hR => ?_)
  unfold sX9_send at hs
  show gg cI X 6 0 0 [oX9 h a_post a_read a_now a_aside a_past f_undos a_kept f_keptMany a_sights f_sightMany a_text f_size f_at f_value a_weights a_tried f_above f_below f_paid a_row a_who a_order a_bestOrder a_costs a_taken, aI cI a_post 52 f_post, aI cI a_now 50 f_now, aI cI a_weights 8 f_weights, aI cI a_tried 8 f_tried, aI cI a_row 3 f_row, aI cI a_who 5 f_who, aI cI a_order 5 f_order, aI cI a_bestOrder 5 f_bestOrder, aI cI a_costs 25 f_costs] [(0, .ref h), (1, .int x1)] 0 []
  refine g_iload_n (pl := 1) C dX9_send_0 rfl rfl ?_
  refine g_iconst (v := (-1)) C dX9_send_1 rfl ?_
  refine g_icmp_eq (tgt := 15) C dX9_send_2 (by decide) (fun c11 => ?_) (fun c11 => ?_)
  · replace hs := vi_t hs c11
    refine g_aload_n (pl := 0) C dX9_send_15 rfl rfl ?_
    obtain ⟨z12, e_z12, hs⟩ := vb_ok hs
    refine g_callV (ws' := [oX9 h a_post a_read a_now a_aside a_past f_undos a_kept f_keptMany a_sights f_sightMany a_text f_size f_at f_value a_weights a_tried f_above f_below f_paid a_row a_who a_order a_bestOrder a_costs a_taken, aI cI a_post 52 f_post, aI cI a_now 50 f_now, aI cI a_weights 8 f_weights, aI cI a_tried 8 f_tried, aI cI a_row 3 f_row, aI cI a_who 5 z12.2, aI cI a_order 5 f_order, aI cI a_bestOrder 5 f_bestOrder, aI cI a_costs 25 f_costs]) (rest := []) (st' := [.int z12.1]) C mX9_258 q5_187 [] (fun l D => cX9_freshOnes_ct l D cI h a_post a_read a_now a_aside a_past a_kept a_sights a_text a_weights a_tried a_row a_who a_order a_bestOrder a_costs a_taken f_undos f_keptMany f_sightMany f_size f_at f_value f_above f_below f_paid f_post f_now f_who e_z12) ⟨⟨rfl, rfl⟩, Nat.le_of_ble_eq_true rfl, Nat.le_of_ble_eq_true rfl⟩ 0 rfl rfl rfl [0, 1, 2, 6] rfl rfl rfl rfl rfl (Nat.le_of_ble_eq_true rfl) (Nat.zero_le _) (Nat.zero_le _) rfl dX9_send_16 ?_
    refine g_istore_n (lv' := [(2, .int z12.1), (0, .ref h), (1, .int x1)]) C dX9_send_19 rfl (by decide) rfl ?_
    refine g_aload_n (pl := 1) C dX9_send_20 rfl rfl ?_
    refine g_iload_n (pl := 0) C dX9_send_21 rfl rfl ?_
    obtain ⟨z13, e_z13, hs⟩ := vb_ok hs
    refine g_callV (ws' := [oX9 h a_post a_read a_now a_aside a_past f_undos a_kept f_keptMany a_sights f_sightMany a_text f_size f_at f_value a_weights a_tried f_above f_below f_paid a_row a_who a_order a_bestOrder a_costs a_taken, aI cI a_post 52 f_post, aI cI a_now 50 f_now, aI cI a_weights 8 z13.2.1, aI cI a_tried 8 z13.2.2.1, aI cI a_row 3 z13.2.2.2.1, aI cI a_who 5 z12.2, aI cI a_order 5 z13.2.2.2.2.1, aI cI a_bestOrder 5 z13.2.2.2.2.2.1, aI cI a_costs 25 z13.2.2.2.2.2.2]) (rest := []) (st' := [.int z13.1]) C mX9_261 q5_191 [.int z12.1] (fun l D => cX9_deals_ct l D cI h a_post a_read a_now a_aside a_past a_kept a_sights a_text a_weights a_tried a_row a_who a_order a_bestOrder a_costs a_taken f_undos f_keptMany f_sightMany f_size f_at f_value f_above f_below f_paid f_post f_now f_weights f_tried f_row z12.2 f_order f_bestOrder f_costs z12.1 e_z13) ⟨⟨rfl, rfl⟩, Nat.le_of_ble_eq_true rfl, Nat.le_of_ble_eq_true rfl⟩ 0 rfl rfl rfl [0, 1, 2, 3, 4, 5, 6, 7, 8, 9] rfl rfl rfl (by simp only [setM, List.set_cons_zero, List.set_cons_succ]) rfl (Nat.le_of_ble_eq_true rfl) (Nat.zero_le _) (Nat.zero_le _) rfl dX9_send_22 ?_
    refine g_istore_n (lv' := [(3, .int z13.1), (2, .int z12.1), (0, .ref h), (1, .int x1)]) C dX9_send_25 rfl (by decide) rfl ?_
    refine g_bipush (v := (-4)) C dX9_send_26 rfl ?_
    refine g_istore (lv' := [(4, .int (-4)), (3, .int z13.1), (2, .int z12.1), (0, .ref h), (1, .int x1)]) C dX9_send_28 (by decide) rfl ?_
    refine g_iconst (v := (nI 0)) C dX9_send_30 rfl ?_
    refine g_istore (lv' := [(5, .int (nI 0)), (4, .int (-4)), (3, .int z13.1), (2, .int z12.1), (0, .ref h), (1, .int x1)]) C dX9_send_31 (by decide) rfl ?_
    refine g_sub [4, 5, 3, 2, 1, 0] rfl ?_
    exact LX9_send_33_w C h a_post a_read a_now a_aside a_past a_kept a_sights a_text a_weights a_tried a_row a_who a_order a_bestOrder a_costs a_taken f_undos f_keptMany f_sightMany f_size f_at f_value f_above f_below f_paid f_post f_now z13.2.1 z13.2.2.1 z13.2.2.2.1 z12.2 z13.2.2.2.2.1 z13.2.2.2.2.2.1 z13.2.2.2.2.2.2 x1 z12.1 z13.1 hR _ (-4) (nI 0) hs
  · replace hs := vi_f hs c11
    refine g_aload_n (pl := 0) C dX9_send_5 rfl rfl ?_
    refine g_iload_n (pl := 1) C dX9_send_6 rfl rfl ?_
    obtain ⟨z14, e_z14, hs⟩ := vb_ok hs
    refine g_callV (ws' := [oX9 h a_post a_read a_now a_aside a_past f_undos a_kept f_keptMany a_sights f_sightMany a_text f_size f_at f_value a_weights a_tried f_above f_below f_paid a_row a_who a_order a_bestOrder a_costs a_taken, aI cI a_post 52 f_post, aI cI a_now 50 f_now, aI cI a_weights 8 f_weights, aI cI a_tried 8 f_tried, aI cI a_row 3 f_row, aI cI a_who 5 f_who, aI cI a_order 5 f_order, aI cI a_bestOrder 5 f_bestOrder, aI cI a_costs 25 f_costs]) (rest := []) (st' := [.int z14]) C mX9_165 q5_61 [.int x1] (fun l D => cX9_isActor_ct l D cI h a_post a_read a_now a_aside a_past a_kept a_sights a_text a_weights a_tried a_row a_who a_order a_bestOrder a_costs a_taken f_undos f_keptMany f_sightMany f_size f_at f_value f_above f_below f_paid f_post x1 e_z14) ⟨⟨rfl, rfl⟩, Nat.le_of_ble_eq_true rfl, Nat.le_of_ble_eq_true rfl⟩ 0 rfl rfl rfl [0, 1] rfl rfl rfl rfl rfl (Nat.le_of_ble_eq_true rfl) (Nat.zero_le _) (Nat.zero_le _) rfl dX9_send_7 ?_
    refine g_if_ne (tgt := 15) C dX9_send_10 (by decide) (fun c15 => ?_) (fun c15 => ?_)
    · replace hs := vi_f hs c15
      refine g_aload_n (pl := 0) C dX9_send_15 rfl rfl ?_
      obtain ⟨z16, e_z16, hs⟩ := vb_ok hs
      refine g_callV (ws' := [oX9 h a_post a_read a_now a_aside a_past f_undos a_kept f_keptMany a_sights f_sightMany a_text f_size f_at f_value a_weights a_tried f_above f_below f_paid a_row a_who a_order a_bestOrder a_costs a_taken, aI cI a_post 52 f_post, aI cI a_now 50 f_now, aI cI a_weights 8 f_weights, aI cI a_tried 8 f_tried, aI cI a_row 3 f_row, aI cI a_who 5 z16.2, aI cI a_order 5 f_order, aI cI a_bestOrder 5 f_bestOrder, aI cI a_costs 25 f_costs]) (rest := []) (st' := [.int z16.1]) C mX9_258 q5_187 [] (fun l D => cX9_freshOnes_ct l D cI h a_post a_read a_now a_aside a_past a_kept a_sights a_text a_weights a_tried a_row a_who a_order a_bestOrder a_costs a_taken f_undos f_keptMany f_sightMany f_size f_at f_value f_above f_below f_paid f_post f_now f_who e_z16) ⟨⟨rfl, rfl⟩, Nat.le_of_ble_eq_true rfl, Nat.le_of_ble_eq_true rfl⟩ 0 rfl rfl rfl [0, 1, 2, 6] rfl rfl rfl rfl rfl (Nat.le_of_ble_eq_true rfl) (Nat.zero_le _) (Nat.zero_le _) rfl dX9_send_16 ?_
      refine g_istore_n (lv' := [(2, .int z16.1), (0, .ref h), (1, .int x1)]) C dX9_send_19 rfl (by decide) rfl ?_
      refine g_aload_n (pl := 1) C dX9_send_20 rfl rfl ?_
      refine g_iload_n (pl := 0) C dX9_send_21 rfl rfl ?_
      obtain ⟨z17, e_z17, hs⟩ := vb_ok hs
      refine g_callV (ws' := [oX9 h a_post a_read a_now a_aside a_past f_undos a_kept f_keptMany a_sights f_sightMany a_text f_size f_at f_value a_weights a_tried f_above f_below f_paid a_row a_who a_order a_bestOrder a_costs a_taken, aI cI a_post 52 f_post, aI cI a_now 50 f_now, aI cI a_weights 8 z17.2.1, aI cI a_tried 8 z17.2.2.1, aI cI a_row 3 z17.2.2.2.1, aI cI a_who 5 z16.2, aI cI a_order 5 z17.2.2.2.2.1, aI cI a_bestOrder 5 z17.2.2.2.2.2.1, aI cI a_costs 25 z17.2.2.2.2.2.2]) (rest := []) (st' := [.int z17.1]) C mX9_261 q5_191 [.int z16.1] (fun l D => cX9_deals_ct l D cI h a_post a_read a_now a_aside a_past a_kept a_sights a_text a_weights a_tried a_row a_who a_order a_bestOrder a_costs a_taken f_undos f_keptMany f_sightMany f_size f_at f_value f_above f_below f_paid f_post f_now f_weights f_tried f_row z16.2 f_order f_bestOrder f_costs z16.1 e_z17) ⟨⟨rfl, rfl⟩, Nat.le_of_ble_eq_true rfl, Nat.le_of_ble_eq_true rfl⟩ 0 rfl rfl rfl [0, 1, 2, 3, 4, 5, 6, 7, 8, 9] rfl rfl rfl (by simp only [setM, List.set_cons_zero, List.set_cons_succ]) rfl (Nat.le_of_ble_eq_true rfl) (Nat.zero_le _) (Nat.zero_le _) rfl dX9_send_22 ?_
      refine g_istore_n (lv' := [(3, .int z17.1), (2, .int z16.1), (0, .ref h), (1, .int x1)]) C dX9_send_25 rfl (by decide) rfl ?_
      refine g_bipush (v := (-4)) C dX9_send_26 rfl ?_
      refine g_istore (lv' := [(4, .int (-4)), (3, .int z17.1), (2, .int z16.1), (0, .ref h), (1, .int x1)]) C dX9_send_28 (by decide) rfl ?_
      refine g_iconst (v := (nI 0)) C dX9_send_30 rfl ?_
      refine g_istore (lv' := [(5, .int (nI 0)), (4, .int (-4)), (3, .int z17.1), (2, .int z16.1), (0, .ref h), (1, .int x1)]) C dX9_send_31 (by decide) rfl ?_
      refine g_sub [4, 5, 3, 2, 1, 0] rfl ?_
      exact LX9_send_33_w C h a_post a_read a_now a_aside a_past a_kept a_sights a_text a_weights a_tried a_row a_who a_order a_bestOrder a_costs a_taken f_undos f_keptMany f_sightMany f_size f_at f_value f_above f_below f_paid f_post f_now z17.2.1 z17.2.2.1 z17.2.2.2.1 z16.2 z17.2.2.2.2.1 z17.2.2.2.2.2.1 z17.2.2.2.2.2.2 x1 z16.1 z17.1 hR _ (-4) (nI 0) hs
    · replace hs := vi_t hs c15
      refine g_iconst (v := (-1)) C dX9_send_13 rfl ?_
      cases hs
      exact hR _ _ dX9_send_14
def LX9_queues_79 (y_1 : Int32) (f_order : Nat → Int32) (f_costs : Nat → Int32) (K115 : Int32 → Option (Int32 × (Nat → Int32) × (Nat → Int32) × (Nat → Int32) × (Nat → Int32) × (Nat → Int32) × (Nat → Int32))) : Nat → Int32 → Int32 → Int32 → Option (Int32 × (Nat → Int32) × (Nat → Int32) × (Nat → Int32) × (Nat → Int32) × (Nat → Int32) × (Nat → Int32))
  | 0, _, _, _ => none
  | n + 1, y_4, y_5, y_6 =>
    vi (y_1 ≤ y_6) inferInstance (
      K115 y_4) (
      vlet (y_4 + y_5) fun y2 =>
      vg (vin y_6 5) (
      vg (vin (f_order (Int32.toNatClampNeg y_6)) 25) (
      vlet (y_5 + (f_costs (Int32.toNatClampNeg (f_order (Int32.toNatClampNeg y_6))))) fun y5 =>
      vlet (y_6 + (nI 1)) fun y6 =>
      LX9_queues_79 y_1 f_order f_costs K115 n y2 y5 y6)))
def LX9_queues_66 (y_1 : Int32) (f_weights : Nat → Int32) (f_tried : Nat → Int32) (f_row : Nat → Int32) (f_costs : Nat → Int32) : Nat → Int32 → Int32 → (Nat → Int32) → (Nat → Int32) → Option (Int32 × (Nat → Int32) × (Nat → Int32) × (Nat → Int32) × (Nat → Int32) × (Nat → Int32) × (Nat → Int32))
  | 0, _, _, _, _ => none
  | n + 1, y_2, y_3, f_order, f_bestOrder =>
    vi (y_3 = 0) inferInstance (
      some (y_2, f_weights, f_tried, f_row, f_order, f_bestOrder, f_costs)) (
      LX9_queues_79 y_1 f_order f_costs (fun (v8 : Int32) =>
          vi (y_2 ≤ v8) inferInstance (
            vb (sX9_nextOrder f_order y_1) fun z10 =>
            LX9_queues_66 y_1 f_weights f_tried f_row f_costs n y_2 z10.1 z10.2 f_bestOrder) (
            vb (sX9_copies 5 5 f_order f_bestOrder (nI 0) (nI 0) y_1) fun z11 =>
            vb (sX9_nextOrder f_order y_1) fun z12 =>
            LX9_queues_66 y_1 f_weights f_tried f_row f_costs n v8 z12.1 z12.2 z11)) vF (nI 0) (nI 0) (nI 0))
def LX9_queues_2 (y_1 : Int32) (f_post : Nat → Int32) (f_now : Nat → Int32) (f_who : Nat → Int32) (f_order : Nat → Int32) (f_bestOrder : Nat → Int32) : Nat → Int32 → (Nat → Int32) → (Nat → Int32) → (Nat → Int32) → (Nat → Int32) → Option (Int32 × (Nat → Int32) × (Nat → Int32) × (Nat → Int32) × (Nat → Int32) × (Nat → Int32) × (Nat → Int32))
  | 0, _, _, _, _, _ => none
  | n + 1, y_2, f_weights, f_tried, f_row, f_costs =>
    vi (y_1 ≤ y_2) inferInstance (
      vb (sX9_firstOrder f_order y_1) fun z14 =>
      LX9_queues_66 y_1 f_weights f_tried f_row f_costs vF (nI 1000000) (nI 1) z14 f_bestOrder) (
      vg (vin y_2 5) (
      vg (vin y_2 5) (
      vg (vin ((nI 0) + (f_who (Int32.toNatClampNeg y_2))) 50) (
      vb (sX9_fewestFor f_post f_now f_weights f_tried f_row (f_who (Int32.toNatClampNeg y_2)) (f_now (Int32.toNatClampNeg ((nI 0) + (f_who (Int32.toNatClampNeg y_2)))))) fun z18 =>
      vi (z18.1 = (-4)) inferInstance (
        vg (vin y_2 25) (
        vlet (upd f_costs (Int32.toNatClampNeg y_2) (nI 5)) fun u25 =>
        vlet (y_2 + (nI 1)) fun y26 =>
        LX9_queues_2 y_1 f_post f_now f_who f_order f_bestOrder n y26 z18.2.1 z18.2.2.1 z18.2.2.2 u25)) (
        vlet ((nI 1) + z18.1) fun y20 =>
        vg (vin y_2 25) (
        vlet (upd f_costs (Int32.toNatClampNeg y_2) y20) fun u22 =>
        vlet (y_2 + (nI 1)) fun y23 =>
        LX9_queues_2 y_1 f_post f_now f_who f_order f_bestOrder n y23 z18.2.1 z18.2.2.1 z18.2.2.2 u22))))))
def sX9_queues (f_post : Nat → Int32) (f_now : Nat → Int32) (f_weights : Nat → Int32) (f_tried : Nat → Int32) (f_row : Nat → Int32) (f_who : Nat → Int32) (f_order : Nat → Int32) (f_bestOrder : Nat → Int32) (f_costs : Nat → Int32) (x1 : Int32) : Option (Int32 × (Nat → Int32) × (Nat → Int32) × (Nat → Int32) × (Nat → Int32) × (Nat → Int32) × (Nat → Int32)) :=
  LX9_queues_2 x1 f_post f_now f_who f_order f_bestOrder vF (nI 0) f_weights f_tried f_row f_costs
abbrev rmX9_queues : Room := { frames := 6, cells := 0, slots := 0, locals := 147 }
set_option maxHeartbeats 4000000 in
set_option maxRecDepth 100000 in
theorem LX9_queues_79_w {cI : ClassId} {X : xT} (C : cx cI X 7 cX9_queues RX9 rmX9_queues) (h : Nat) (a_post : Nat) (a_read : Nat) (a_now : Nat) (a_aside : Nat) (a_past : Nat) (a_kept : Nat) (a_sights : Nat) (a_text : Nat) (a_weights : Nat) (a_tried : Nat) (a_row : Nat) (a_who : Nat) (a_order : Nat) (a_bestOrder : Nat) (a_costs : Nat) (a_taken : Nat) (f_undos : Int32) (f_keptMany : Int32) (f_sightMany : Int32) (f_size : Int32) (f_at : Int32) (f_value : Int32) (f_above : Int64) (f_below : Int64) (f_paid : Int32) (f_post : Nat → Int32) (f_now : Nat → Int32) (f_weights : Nat → Int32) (f_tried : Nat → Int32) (f_row : Nat → Int32) (f_who : Nat → Int32) (f_order : Nat → Int32) (f_bestOrder : Nat → Int32) (f_costs : Nat → Int32) (y_1 : Int32) (y_2 : Int32) {z : Int32 × (Nat → Int32) × (Nat → Int32) × (Nat → Int32) × (Nat → Int32) × (Nat → Int32) × (Nat → Int32)} (hR : ∀ (lv : List (Nat × Value)) (pc : Nat), decode cX9_queues pc = .ok (.ireturn, 1) → gg cI X 7 0 0 [oX9 h a_post a_read a_now a_aside a_past f_undos a_kept f_keptMany a_sights f_sightMany a_text f_size f_at f_value a_weights a_tried f_above f_below f_paid a_row a_who a_order a_bestOrder a_costs a_taken, aI cI a_post 52 f_post, aI cI a_now 50 f_now, aI cI a_weights 8 z.2.1, aI cI a_tried 8 z.2.2.1, aI cI a_row 3 z.2.2.2.1, aI cI a_who 5 f_who, aI cI a_order 5 z.2.2.2.2.1, aI cI a_bestOrder 5 z.2.2.2.2.2.1, aI cI a_costs 25 z.2.2.2.2.2.2] lv pc [.int z.1]) {K115 : Int32 → Option (Int32 × (Nat → Int32) × (Nat → Int32) × (Nat → Int32) × (Nat → Int32) × (Nat → Int32) × (Nat → Int32))} (hK115 : ∀ (k_4 : Int32), K115 k_4 = some z → gg cI X 7 0 0 [oX9 h a_post a_read a_now a_aside a_past f_undos a_kept f_keptMany a_sights f_sightMany a_text f_size f_at f_value a_weights a_tried f_above f_below f_paid a_row a_who a_order a_bestOrder a_costs a_taken, aI cI a_post 52 f_post, aI cI a_now 50 f_now, aI cI a_weights 8 f_weights, aI cI a_tried 8 f_tried, aI cI a_row 3 f_row, aI cI a_who 5 f_who, aI cI a_order 5 f_order, aI cI a_bestOrder 5 f_bestOrder, aI cI a_costs 25 f_costs] [(0, .ref h), (1, .int y_1), (2, .int y_2), (4, .int k_4)] 115 []) : ∀ (n : Nat) (y_4 : Int32) (y_5 : Int32) (y_6 : Int32), LX9_queues_79 y_1 f_order f_costs K115 n y_4 y_5 y_6 = some z → gg cI X 7 0 0 [oX9 h a_post a_read a_now a_aside a_past f_undos a_kept f_keptMany a_sights f_sightMany a_text f_size f_at f_value a_weights a_tried f_above f_below f_paid a_row a_who a_order a_bestOrder a_costs a_taken, aI cI a_post 52 f_post, aI cI a_now 50 f_now, aI cI a_weights 8 f_weights, aI cI a_tried 8 f_tried, aI cI a_row 3 f_row, aI cI a_who 5 f_who, aI cI a_order 5 f_order, aI cI a_bestOrder 5 f_bestOrder, aI cI a_costs 25 f_costs] [(0, .ref h), (1, .int y_1), (2, .int y_2), (4, .int y_4), (5, .int y_5), (6, .int y_6)] 79 [] := by
  intro n
  induction n with
  | zero =>
    intro y_4 y_5 y_6 hs
    exact nn_ok hs
  | succ n ih =>
    intro y_4 y_5 y_6 hs
    rw [LX9_queues_79] at hs
    refine g_iload (pl := 5) C dX9_queues_79 rfl ?_
    refine g_iload_n (pl := 1) C dX9_queues_81 rfl rfl ?_
    refine g_icmp_ge (tgt := 115) C dX9_queues_82 (by decide) (fun c1 => ?_) (fun c1 => ?_)
    · replace hs := vi_t hs c1
      refine g_sub [0, 1, 2, 3] rfl ?_
      exact hK115 y_4 hs
    · replace hs := vi_f hs c1
      refine g_iload (pl := 3) C dX9_queues_85 rfl ?_
      refine g_iload (pl := 4) C dX9_queues_87 rfl ?_
      refine g_iadd C dX9_queues_89 ?_
      obtain ⟨y2, e_y2, hs⟩ := vlet_ex hs
      refine g_topi e_y2 ?_
      refine g_istore (lv' := [(4, .int y2), (0, .ref h), (1, .int y_1), (2, .int y_2), (5, .int y_5), (6, .int y_6)]) C dX9_queues_90 (by decide) rfl ?_
      refine g_iload (pl := 4) C dX9_queues_92 rfl ?_
      refine g_aload_n (pl := 1) C dX9_queues_94 rfl rfl ?_
      refine g_get C fX9_52 0 rfl rfl dX9_queues_95 ?_
      refine g_aload_n (pl := 1) C dX9_queues_98 rfl rfl ?_
      refine g_get C fX9_46 0 rfl rfl dX9_queues_99 ?_
      refine g_iload (pl := 5) C dX9_queues_102 rfl ?_
      obtain ⟨b3, hs⟩ := vg_ok hs
      refine g_iald C 7 rfl (vin_ok b3) dX9_queues_104 ?_
      obtain ⟨b4, hs⟩ := vg_ok hs
      refine g_iald C 9 rfl (vin_ok b4) dX9_queues_105 ?_
      refine g_iadd C dX9_queues_106 ?_
      obtain ⟨y5, e_y5, hs⟩ := vlet_ex hs
      refine g_topi e_y5 ?_
      refine g_istore (lv' := [(5, .int y5), (4, .int y2), (0, .ref h), (1, .int y_1), (2, .int y_2), (6, .int y_6)]) C dX9_queues_107 (by decide) rfl ?_
      obtain ⟨y6, e_y6, hs⟩ := vlet_ex hs
      refine g_iinc (pl := 5) (lv' := [(6, .int y6), (5, .int y5), (4, .int y2), (0, .ref h), (1, .int y_1), (2, .int y_2)]) C dX9_queues_109 rfl e_y6.symm (by decide) rfl ?_
      refine g_goto (tgt := 79) C dX9_queues_112 (by decide) ?_
      refine g_sub [3, 4, 5, 2, 1, 0] rfl ?_
      exact ih y2 y5 y6 hs
set_option maxHeartbeats 4000000 in
set_option maxRecDepth 100000 in
theorem LX9_queues_66_w {cI : ClassId} {X : xT} (C : cx cI X 7 cX9_queues RX9 rmX9_queues) (h : Nat) (a_post : Nat) (a_read : Nat) (a_now : Nat) (a_aside : Nat) (a_past : Nat) (a_kept : Nat) (a_sights : Nat) (a_text : Nat) (a_weights : Nat) (a_tried : Nat) (a_row : Nat) (a_who : Nat) (a_order : Nat) (a_bestOrder : Nat) (a_costs : Nat) (a_taken : Nat) (f_undos : Int32) (f_keptMany : Int32) (f_sightMany : Int32) (f_size : Int32) (f_at : Int32) (f_value : Int32) (f_above : Int64) (f_below : Int64) (f_paid : Int32) (f_post : Nat → Int32) (f_now : Nat → Int32) (f_weights : Nat → Int32) (f_tried : Nat → Int32) (f_row : Nat → Int32) (f_who : Nat → Int32) (f_costs : Nat → Int32) (y_1 : Int32) {z : Int32 × (Nat → Int32) × (Nat → Int32) × (Nat → Int32) × (Nat → Int32) × (Nat → Int32) × (Nat → Int32)} (hR : ∀ (lv : List (Nat × Value)) (pc : Nat), decode cX9_queues pc = .ok (.ireturn, 1) → gg cI X 7 0 0 [oX9 h a_post a_read a_now a_aside a_past f_undos a_kept f_keptMany a_sights f_sightMany a_text f_size f_at f_value a_weights a_tried f_above f_below f_paid a_row a_who a_order a_bestOrder a_costs a_taken, aI cI a_post 52 f_post, aI cI a_now 50 f_now, aI cI a_weights 8 z.2.1, aI cI a_tried 8 z.2.2.1, aI cI a_row 3 z.2.2.2.1, aI cI a_who 5 f_who, aI cI a_order 5 z.2.2.2.2.1, aI cI a_bestOrder 5 z.2.2.2.2.2.1, aI cI a_costs 25 z.2.2.2.2.2.2] lv pc [.int z.1]) : ∀ (n : Nat) (y_2 : Int32) (y_3 : Int32) (f_order : Nat → Int32) (f_bestOrder : Nat → Int32), LX9_queues_66 y_1 f_weights f_tried f_row f_costs n y_2 y_3 f_order f_bestOrder = some z → gg cI X 7 0 0 [oX9 h a_post a_read a_now a_aside a_past f_undos a_kept f_keptMany a_sights f_sightMany a_text f_size f_at f_value a_weights a_tried f_above f_below f_paid a_row a_who a_order a_bestOrder a_costs a_taken, aI cI a_post 52 f_post, aI cI a_now 50 f_now, aI cI a_weights 8 f_weights, aI cI a_tried 8 f_tried, aI cI a_row 3 f_row, aI cI a_who 5 f_who, aI cI a_order 5 f_order, aI cI a_bestOrder 5 f_bestOrder, aI cI a_costs 25 f_costs] [(0, .ref h), (1, .int y_1), (2, .int y_2), (3, .int y_3)] 66 [] := by
  intro n
  induction n with
  | zero =>
    intro y_2 y_3 f_order f_bestOrder hs
    exact nn_ok hs
  | succ n ih =>
    intro y_2 y_3 f_order f_bestOrder hs
    rw [LX9_queues_66] at hs
    refine g_iload_n (pl := 3) C dX9_queues_66 rfl rfl ?_
    refine g_if_eq (tgt := 147) C dX9_queues_67 (by decide) (fun c7 => ?_) (fun c7 => ?_)
    · replace hs := vi_t hs c7
      refine g_iload_n (pl := 2) C dX9_queues_147 rfl rfl ?_
      cases hs
      exact hR _ _ dX9_queues_148
    · replace hs := vi_f hs c7
      refine g_iconst (v := (nI 0)) C dX9_queues_70 rfl ?_
      refine g_istore (lv' := [(4, .int (nI 0)), (0, .ref h), (1, .int y_1), (2, .int y_2), (3, .int y_3)]) C dX9_queues_71 (by decide) rfl ?_
      refine g_iconst (v := (nI 0)) C dX9_queues_73 rfl ?_
      refine g_istore (lv' := [(5, .int (nI 0)), (4, .int (nI 0)), (0, .ref h), (1, .int y_1), (2, .int y_2), (3, .int y_3)]) C dX9_queues_74 (by decide) rfl ?_
      refine g_iconst (v := (nI 0)) C dX9_queues_76 rfl ?_
      refine g_istore (lv' := [(6, .int (nI 0)), (5, .int (nI 0)), (4, .int (nI 0)), (0, .ref h), (1, .int y_1), (2, .int y_2), (3, .int y_3)]) C dX9_queues_77 (by decide) rfl ?_
      refine g_sub [3, 4, 5, 2, 1, 0] rfl ?_
      refine LX9_queues_79_w C h a_post a_read a_now a_aside a_past a_kept a_sights a_text a_weights a_tried a_row a_who a_order a_bestOrder a_costs a_taken f_undos f_keptMany f_sightMany f_size f_at f_value f_above f_below f_paid f_post f_now f_weights f_tried f_row f_who f_order f_bestOrder f_costs y_1 y_2 hR ?_ _ (nI 0) (nI 0) (nI 0) hs
      · intro v8 hs
        refine g_iload (pl := 3) C dX9_queues_115 rfl ?_
        refine g_iload_n (pl := 2) C dX9_queues_117 rfl rfl ?_
        refine g_icmp_ge (tgt := 138) C dX9_queues_118 (by decide) (fun c9 => ?_) (fun c9 => ?_)
        · replace hs := vi_t hs c9
          refine g_aload_n (pl := 0) C dX9_queues_138 rfl rfl ?_
          refine g_iload_n (pl := 1) C dX9_queues_139 rfl rfl ?_
          obtain ⟨z10, e_z10, hs⟩ := vb_ok hs
          refine g_callV (ws' := [oX9 h a_post a_read a_now a_aside a_past f_undos a_kept f_keptMany a_sights f_sightMany a_text f_size f_at f_value a_weights a_tried f_above f_below f_paid a_row a_who a_order a_bestOrder a_costs a_taken, aI cI a_post 52 f_post, aI cI a_now 50 f_now, aI cI a_weights 8 f_weights, aI cI a_tried 8 f_tried, aI cI a_row 3 f_row, aI cI a_who 5 f_who, aI cI a_order 5 z10.2, aI cI a_bestOrder 5 f_bestOrder, aI cI a_costs 25 f_costs]) (rest := []) (st' := [.int z10.1]) C mX9_255 q5_200 [.int y_1] (fun l D => cX9_nextOrder_ct l D cI h a_post a_read a_now a_aside a_past a_kept a_sights a_text a_weights a_tried a_row a_who a_order a_bestOrder a_costs a_taken f_undos f_keptMany f_sightMany f_size f_at f_value f_above f_below f_paid f_order y_1 e_z10) ⟨⟨rfl, rfl⟩, Nat.le_of_ble_eq_true rfl, Nat.le_of_ble_eq_true rfl⟩ 0 rfl rfl rfl [0, 7] rfl rfl rfl rfl rfl (Nat.le_of_ble_eq_true rfl) (Nat.zero_le _) (Nat.zero_le _) rfl dX9_queues_140 ?_
          refine g_istore_n (lv' := [(3, .int z10.1), (0, .ref h), (1, .int y_1), (2, .int y_2), (4, .int v8)]) C dX9_queues_143 rfl (by decide) rfl ?_
          refine g_goto (tgt := 66) C dX9_queues_144 (by decide) ?_
          refine g_sub [1, 2, 3, 0] rfl ?_
          exact ih y_2 z10.1 z10.2 f_bestOrder hs
        · replace hs := vi_f hs c9
          refine g_iload (pl := 3) C dX9_queues_121 rfl ?_
          refine g_istore_n (lv' := [(2, .int v8), (0, .ref h), (1, .int y_1), (4, .int v8)]) C dX9_queues_123 rfl (by decide) rfl ?_
          refine g_aload_n (pl := 1) C dX9_queues_124 rfl rfl ?_
          refine g_get C fX9_46 0 rfl rfl dX9_queues_125 ?_
          refine g_iconst (v := (nI 0)) C dX9_queues_128 rfl ?_
          refine g_aload_n (pl := 1) C dX9_queues_129 rfl rfl ?_
          refine g_get C fX9_49 0 rfl rfl dX9_queues_130 ?_
          refine g_iconst (v := (nI 0)) C dX9_queues_133 rfl ?_
          refine g_iload_n (pl := 2) C dX9_queues_134 rfl rfl ?_
          obtain ⟨z11, e_z11, hs⟩ := vb_ok hs
          refine g_callS (ws' := [oX9 h a_post a_read a_now a_aside a_past f_undos a_kept f_keptMany a_sights f_sightMany a_text f_size f_at f_value a_weights a_tried f_above f_below f_paid a_row a_who a_order a_bestOrder a_costs a_taken, aI cI a_post 52 f_post, aI cI a_now 50 f_now, aI cI a_weights 8 f_weights, aI cI a_tried 8 f_tried, aI cI a_row 3 f_row, aI cI a_who 5 f_who, aI cI a_order 5 f_order, aI cI a_bestOrder 5 z11, aI cI a_costs 25 f_costs]) (rest := []) (st' := []) C mX9_148 q5_29 [.ref a_order, .int (nI 0), .ref a_bestOrder, .int (nI 0), .int y_1] (fun l D => cX9_copies_ct l D cI a_order a_bestOrder 5 5 f_order f_bestOrder (nI 0) (nI 0) y_1 e_z11) ⟨⟨rfl, rfl⟩, Nat.le_of_ble_eq_true rfl, Nat.le_of_ble_eq_true rfl⟩ rfl [7, 8] rfl rfl rfl rfl rfl (Nat.le_of_ble_eq_true rfl) (Nat.zero_le _) (Nat.zero_le _) rfl dX9_queues_135 ?_
          refine g_aload_n (pl := 1) C dX9_queues_138 rfl rfl ?_
          refine g_iload_n (pl := 2) C dX9_queues_139 rfl rfl ?_
          obtain ⟨z12, e_z12, hs⟩ := vb_ok hs
          refine g_callV (ws' := [oX9 h a_post a_read a_now a_aside a_past f_undos a_kept f_keptMany a_sights f_sightMany a_text f_size f_at f_value a_weights a_tried f_above f_below f_paid a_row a_who a_order a_bestOrder a_costs a_taken, aI cI a_post 52 f_post, aI cI a_now 50 f_now, aI cI a_weights 8 f_weights, aI cI a_tried 8 f_tried, aI cI a_row 3 f_row, aI cI a_who 5 f_who, aI cI a_order 5 z12.2, aI cI a_bestOrder 5 z11, aI cI a_costs 25 f_costs]) (rest := []) (st' := [.int z12.1]) C mX9_255 q5_200 [.int y_1] (fun l D => cX9_nextOrder_ct l D cI h a_post a_read a_now a_aside a_past a_kept a_sights a_text a_weights a_tried a_row a_who a_order a_bestOrder a_costs a_taken f_undos f_keptMany f_sightMany f_size f_at f_value f_above f_below f_paid f_order y_1 e_z12) ⟨⟨rfl, rfl⟩, Nat.le_of_ble_eq_true rfl, Nat.le_of_ble_eq_true rfl⟩ 0 rfl rfl rfl [0, 7] rfl rfl rfl rfl rfl (Nat.le_of_ble_eq_true rfl) (Nat.zero_le _) (Nat.zero_le _) rfl dX9_queues_140 ?_
          refine g_istore_n (lv' := [(3, .int z12.1), (2, .int v8), (0, .ref h), (1, .int y_1), (4, .int v8)]) C dX9_queues_143 rfl (by decide) rfl ?_
          refine g_goto (tgt := 66) C dX9_queues_144 (by decide) ?_
          refine g_sub [2, 3, 1, 0] rfl ?_
          exact ih v8 z12.1 z12.2 z11 hs
set_option maxHeartbeats 4000000 in
set_option maxRecDepth 100000 in
theorem LX9_queues_2_w {cI : ClassId} {X : xT} (C : cx cI X 7 cX9_queues RX9 rmX9_queues) (h : Nat) (a_post : Nat) (a_read : Nat) (a_now : Nat) (a_aside : Nat) (a_past : Nat) (a_kept : Nat) (a_sights : Nat) (a_text : Nat) (a_weights : Nat) (a_tried : Nat) (a_row : Nat) (a_who : Nat) (a_order : Nat) (a_bestOrder : Nat) (a_costs : Nat) (a_taken : Nat) (f_undos : Int32) (f_keptMany : Int32) (f_sightMany : Int32) (f_size : Int32) (f_at : Int32) (f_value : Int32) (f_above : Int64) (f_below : Int64) (f_paid : Int32) (f_post : Nat → Int32) (f_now : Nat → Int32) (f_who : Nat → Int32) (f_order : Nat → Int32) (f_bestOrder : Nat → Int32) (y_1 : Int32) {z : Int32 × (Nat → Int32) × (Nat → Int32) × (Nat → Int32) × (Nat → Int32) × (Nat → Int32) × (Nat → Int32)} (hR : ∀ (lv : List (Nat × Value)) (pc : Nat), decode cX9_queues pc = .ok (.ireturn, 1) → gg cI X 7 0 0 [oX9 h a_post a_read a_now a_aside a_past f_undos a_kept f_keptMany a_sights f_sightMany a_text f_size f_at f_value a_weights a_tried f_above f_below f_paid a_row a_who a_order a_bestOrder a_costs a_taken, aI cI a_post 52 f_post, aI cI a_now 50 f_now, aI cI a_weights 8 z.2.1, aI cI a_tried 8 z.2.2.1, aI cI a_row 3 z.2.2.2.1, aI cI a_who 5 f_who, aI cI a_order 5 z.2.2.2.2.1, aI cI a_bestOrder 5 z.2.2.2.2.2.1, aI cI a_costs 25 z.2.2.2.2.2.2] lv pc [.int z.1]) : ∀ (n : Nat) (y_2 : Int32) (f_weights : Nat → Int32) (f_tried : Nat → Int32) (f_row : Nat → Int32) (f_costs : Nat → Int32), LX9_queues_2 y_1 f_post f_now f_who f_order f_bestOrder n y_2 f_weights f_tried f_row f_costs = some z → gg cI X 7 0 0 [oX9 h a_post a_read a_now a_aside a_past f_undos a_kept f_keptMany a_sights f_sightMany a_text f_size f_at f_value a_weights a_tried f_above f_below f_paid a_row a_who a_order a_bestOrder a_costs a_taken, aI cI a_post 52 f_post, aI cI a_now 50 f_now, aI cI a_weights 8 f_weights, aI cI a_tried 8 f_tried, aI cI a_row 3 f_row, aI cI a_who 5 f_who, aI cI a_order 5 f_order, aI cI a_bestOrder 5 f_bestOrder, aI cI a_costs 25 f_costs] [(0, .ref h), (1, .int y_1), (2, .int y_2)] 2 [] := by
  intro n
  induction n with
  | zero =>
    intro y_2 f_weights f_tried f_row f_costs hs
    exact nn_ok hs
  | succ n ih =>
    intro y_2 f_weights f_tried f_row f_costs hs
    rw [LX9_queues_2] at hs
    refine g_iload_n (pl := 2) C dX9_queues_2 rfl rfl ?_
    refine g_iload_n (pl := 1) C dX9_queues_3 rfl rfl ?_
    refine g_icmp_ge (tgt := 56) C dX9_queues_4 (by decide) (fun c13 => ?_) (fun c13 => ?_)
    · replace hs := vi_t hs c13
      refine g_ldc (v := (nI 1000000)) C q5_192 dX9_queues_56 ?_
      refine g_istore_n (lv' := [(2, .int (nI 1000000)), (0, .ref h), (1, .int y_1)]) C dX9_queues_58 rfl (by decide) rfl ?_
      refine g_aload_n (pl := 1) C dX9_queues_59 rfl rfl ?_
      refine g_iload_n (pl := 2) C dX9_queues_60 rfl rfl ?_
      obtain ⟨z14, e_z14, hs⟩ := vb_ok hs
      refine g_callV (ws' := [oX9 h a_post a_read a_now a_aside a_past f_undos a_kept f_keptMany a_sights f_sightMany a_text f_size f_at f_value a_weights a_tried f_above f_below f_paid a_row a_who a_order a_bestOrder a_costs a_taken, aI cI a_post 52 f_post, aI cI a_now 50 f_now, aI cI a_weights 8 f_weights, aI cI a_tried 8 f_tried, aI cI a_row 3 f_row, aI cI a_who 5 f_who, aI cI a_order 5 z14, aI cI a_bestOrder 5 f_bestOrder, aI cI a_costs 25 f_costs]) (rest := []) (st' := []) C mX9_251 q5_196 [.int y_1] (fun l D => cX9_firstOrder_ct l D cI h a_post a_read a_now a_aside a_past a_kept a_sights a_text a_weights a_tried a_row a_who a_order a_bestOrder a_costs a_taken f_undos f_keptMany f_sightMany f_size f_at f_value f_above f_below f_paid f_order y_1 e_z14) ⟨⟨rfl, rfl⟩, Nat.le_of_ble_eq_true rfl, Nat.le_of_ble_eq_true rfl⟩ 0 rfl rfl rfl [0, 7] rfl rfl rfl rfl rfl (Nat.le_of_ble_eq_true rfl) (Nat.zero_le _) (Nat.zero_le _) rfl dX9_queues_61 ?_
      refine g_iconst (v := (nI 1)) C dX9_queues_64 rfl ?_
      refine g_istore_n (lv' := [(3, .int (nI 1)), (2, .int (nI 1000000)), (0, .ref h), (1, .int y_1)]) C dX9_queues_65 rfl (by decide) rfl ?_
      refine g_sub [2, 3, 1, 0] rfl ?_
      exact LX9_queues_66_w C h a_post a_read a_now a_aside a_past a_kept a_sights a_text a_weights a_tried a_row a_who a_order a_bestOrder a_costs a_taken f_undos f_keptMany f_sightMany f_size f_at f_value f_above f_below f_paid f_post f_now f_weights f_tried f_row f_who f_costs y_1 hR _ (nI 1000000) (nI 1) z14 f_bestOrder hs
    · replace hs := vi_f hs c13
      refine g_aload_n (pl := 0) C dX9_queues_7 rfl rfl ?_
      refine g_aload_n (pl := 0) C dX9_queues_8 rfl rfl ?_
      refine g_get C fX9_43 0 rfl rfl dX9_queues_9 ?_
      refine g_iload_n (pl := 2) C dX9_queues_12 rfl rfl ?_
      obtain ⟨b15, hs⟩ := vg_ok hs
      refine g_iald C 6 rfl (vin_ok b15) dX9_queues_13 ?_
      refine g_aload_n (pl := 0) C dX9_queues_14 rfl rfl ?_
      refine g_get C fX9_16 0 rfl rfl dX9_queues_15 ?_
      refine g_iconst (v := (nI 0)) C dX9_queues_18 rfl ?_
      refine g_aload_n (pl := 0) C dX9_queues_19 rfl rfl ?_
      refine g_get C fX9_43 0 rfl rfl dX9_queues_20 ?_
      refine g_iload_n (pl := 2) C dX9_queues_23 rfl rfl ?_
      obtain ⟨b16, hs⟩ := vg_ok hs
      refine g_iald C 6 rfl (vin_ok b16) dX9_queues_24 ?_
      refine g_iadd C dX9_queues_25 ?_
      obtain ⟨b17, hs⟩ := vg_ok hs
      refine g_iald C 2 rfl (vin_ok b17) dX9_queues_26 ?_
      obtain ⟨z18, e_z18, hs⟩ := vb_ok hs
      refine g_callV (ws' := [oX9 h a_post a_read a_now a_aside a_past f_undos a_kept f_keptMany a_sights f_sightMany a_text f_size f_at f_value a_weights a_tried f_above f_below f_paid a_row a_who a_order a_bestOrder a_costs a_taken, aI cI a_post 52 f_post, aI cI a_now 50 f_now, aI cI a_weights 8 z18.2.1, aI cI a_tried 8 z18.2.2.1, aI cI a_row 3 z18.2.2.2, aI cI a_who 5 f_who, aI cI a_order 5 f_order, aI cI a_bestOrder 5 f_bestOrder, aI cI a_costs 25 f_costs]) (rest := []) (st' := [.int z18.1]) C mX9_246 q5_163 [.int (f_who (Int32.toNatClampNeg y_2)), .int (f_now (Int32.toNatClampNeg ((nI 0) + (f_who (Int32.toNatClampNeg y_2)))))] (fun l D => cX9_fewestFor_ct l D cI h a_post a_read a_now a_aside a_past a_kept a_sights a_text a_weights a_tried a_row a_who a_order a_bestOrder a_costs a_taken f_undos f_keptMany f_sightMany f_size f_at f_value f_above f_below f_paid f_post f_now f_weights f_tried f_row (f_who (Int32.toNatClampNeg y_2)) (f_now (Int32.toNatClampNeg ((nI 0) + (f_who (Int32.toNatClampNeg y_2))))) e_z18) ⟨⟨rfl, rfl⟩, Nat.le_of_ble_eq_true rfl, Nat.le_of_ble_eq_true rfl⟩ 0 rfl rfl rfl [0, 1, 2, 3, 4, 5] rfl rfl rfl rfl rfl (Nat.le_of_ble_eq_true rfl) (Nat.zero_le _) (Nat.zero_le _) rfl dX9_queues_27 ?_
      refine g_istore_n (lv' := [(3, .int z18.1), (0, .ref h), (1, .int y_1), (2, .int y_2)]) C dX9_queues_30 rfl (by decide) rfl ?_
      refine g_aload_n (pl := 1) C dX9_queues_31 rfl rfl ?_
      refine g_get C fX9_52 0 rfl rfl dX9_queues_32 ?_
      refine g_iload_n (pl := 3) C dX9_queues_35 rfl rfl ?_
      refine g_iload_n (pl := 0) C dX9_queues_36 rfl rfl ?_
      refine g_bipush (v := (-4)) C dX9_queues_37 rfl ?_
      refine g_icmp_ne (tgt := 46) C dX9_queues_39 (by decide) (fun c19 => ?_) (fun c19 => ?_)
      · replace hs := vi_f hs c19
        refine g_iconst (v := (nI 1)) C dX9_queues_46 rfl ?_
        refine g_iload_n (pl := 0) C dX9_queues_47 rfl rfl ?_
        refine g_iadd C dX9_queues_48 ?_
        obtain ⟨y20, e_y20, hs⟩ := vlet_ex hs
        refine g_topi e_y20 ?_
        obtain ⟨b21, hs⟩ := vg_ok hs
        obtain ⟨u22, e_u22, hs⟩ := vlet_ex hs
        refine g_iast (ws' := [oX9 h a_post a_read a_now a_aside a_past f_undos a_kept f_keptMany a_sights f_sightMany a_text f_size f_at f_value a_weights a_tried f_above f_below f_paid a_row a_who a_order a_bestOrder a_costs a_taken, aI cI a_post 52 f_post, aI cI a_now 50 f_now, aI cI a_weights 8 z18.2.1, aI cI a_tried 8 z18.2.2.1, aI cI a_row 3 z18.2.2.2, aI cI a_who 5 f_who, aI cI a_order 5 f_order, aI cI a_bestOrder 5 f_bestOrder, aI cI a_costs 25 u22]) C 9 rfl (vin_ok b21) (by rw [e_u22]; rfl) dX9_queues_49 ?_
        obtain ⟨y23, e_y23, hs⟩ := vlet_ex hs
        refine g_iinc (pl := 3) (lv' := [(2, .int y23), (3, .int z18.1), (0, .ref h), (1, .int y_1)]) C dX9_queues_50 rfl e_y23.symm (by decide) rfl ?_
        refine g_goto (tgt := 2) C dX9_queues_53 (by decide) ?_
        refine g_sub [2, 3, 0] rfl ?_
        exact ih y23 z18.2.1 z18.2.2.1 z18.2.2.2 u22 hs
      · replace hs := vi_t hs c19
        refine g_iconst (v := (nI 5)) C dX9_queues_42 rfl ?_
        refine g_goto (tgt := 49) C dX9_queues_43 (by decide) ?_
        obtain ⟨b24, hs⟩ := vg_ok hs
        obtain ⟨u25, e_u25, hs⟩ := vlet_ex hs
        refine g_iast (ws' := [oX9 h a_post a_read a_now a_aside a_past f_undos a_kept f_keptMany a_sights f_sightMany a_text f_size f_at f_value a_weights a_tried f_above f_below f_paid a_row a_who a_order a_bestOrder a_costs a_taken, aI cI a_post 52 f_post, aI cI a_now 50 f_now, aI cI a_weights 8 z18.2.1, aI cI a_tried 8 z18.2.2.1, aI cI a_row 3 z18.2.2.2, aI cI a_who 5 f_who, aI cI a_order 5 f_order, aI cI a_bestOrder 5 f_bestOrder, aI cI a_costs 25 u25]) C 9 rfl (vin_ok b24) (by rw [e_u25]; rfl) dX9_queues_49 ?_
        obtain ⟨y26, e_y26, hs⟩ := vlet_ex hs
        refine g_iinc (pl := 3) (lv' := [(2, .int y26), (3, .int z18.1), (0, .ref h), (1, .int y_1)]) C dX9_queues_50 rfl e_y26.symm (by decide) rfl ?_
        refine g_goto (tgt := 2) C dX9_queues_53 (by decide) ?_
        refine g_sub [2, 3, 0] rfl ?_
        exact ih y26 z18.2.1 z18.2.2.1 z18.2.2.2 u25 hs
set_option maxHeartbeats 4000000 in
set_option maxRecDepth 100000 in
theorem cX9_queues_ct (l : Launch) (D : va_G) (cI : ClassId) (h : Nat) (a_post : Nat) (a_read : Nat) (a_now : Nat) (a_aside : Nat) (a_past : Nat) (a_kept : Nat) (a_sights : Nat) (a_text : Nat) (a_weights : Nat) (a_tried : Nat) (a_row : Nat) (a_who : Nat) (a_order : Nat) (a_bestOrder : Nat) (a_costs : Nat) (a_taken : Nat) (f_undos : Int32) (f_keptMany : Int32) (f_sightMany : Int32) (f_size : Int32) (f_at : Int32) (f_value : Int32) (f_above : Int64) (f_below : Int64) (f_paid : Int32) (f_post : Nat → Int32) (f_now : Nat → Int32) (f_weights : Nat → Int32) (f_tried : Nat → Int32) (f_row : Nat → Int32) (f_who : Nat → Int32) (f_order : Nat → Int32) (f_bestOrder : Nat → Int32) (f_costs : Nat → Int32) (x1 : Int32) {z : Int32 × (Nat → Int32) × (Nat → Int32) × (Nat → Int32) × (Nat → Int32) × (Nat → Int32) × (Nat → Int32)} (hs : sX9_queues f_post f_now f_weights f_tried f_row f_who f_order f_bestOrder f_costs x1 = some z) : ct l yX9_queues (.code yX9_queues cX9_queues 7 (some .int) :: gtb) rmX9_queues D cI [.ref h, .int x1] [oX9 h a_post a_read a_now a_aside a_past f_undos a_kept f_keptMany a_sights f_sightMany a_text f_size f_at f_value a_weights a_tried f_above f_below f_paid a_row a_who a_order a_bestOrder a_costs a_taken, aI cI a_post 52 f_post, aI cI a_now 50 f_now, aI cI a_weights 8 f_weights, aI cI a_tried 8 f_tried, aI cI a_row 3 f_row, aI cI a_who 5 f_who, aI cI a_order 5 f_order, aI cI a_bestOrder 5 f_bestOrder, aI cI a_costs 25 f_costs] (some (.int z.1)) [oX9 h a_post a_read a_now a_aside a_past f_undos a_kept f_keptMany a_sights f_sightMany a_text f_size f_at f_value a_weights a_tried f_above f_below f_paid a_row a_who a_order a_bestOrder a_costs a_taken, aI cI a_post 52 f_post, aI cI a_now 50 f_now, aI cI a_weights 8 z.2.1, aI cI a_tried 8 z.2.2.1, aI cI a_row 3 z.2.2.2.1, aI cI a_who 5 f_who, aI cI a_order 5 z.2.2.2.2.1, aI cI a_bestOrder 5 z.2.2.2.2.2.1, aI cI a_costs 25 z.2.2.2.2.2.2] := by
  refine ct_ofI (own := RX9) (by decide +kernel) rfl (Nat.le_of_ble_eq_true rfl) (fun X C hD hR => ?_)
  unfold sX9_queues at hs
  show gg cI X 7 0 0 [oX9 h a_post a_read a_now a_aside a_past f_undos a_kept f_keptMany a_sights f_sightMany a_text f_size f_at f_value a_weights a_tried f_above f_below f_paid a_row a_who a_order a_bestOrder a_costs a_taken, aI cI a_post 52 f_post, aI cI a_now 50 f_now, aI cI a_weights 8 f_weights, aI cI a_tried 8 f_tried, aI cI a_row 3 f_row, aI cI a_who 5 f_who, aI cI a_order 5 f_order, aI cI a_bestOrder 5 f_bestOrder, aI cI a_costs 25 f_costs] [(0, .ref h), (1, .int x1)] 0 []
  refine g_iconst (v := (nI 0)) C dX9_queues_0 rfl ?_
  refine g_istore_n (lv' := [(2, .int (nI 0)), (0, .ref h), (1, .int x1)]) C dX9_queues_1 rfl (by decide) rfl ?_
  refine g_sub [1, 2, 0] rfl ?_
  exact LX9_queues_2_w C h a_post a_read a_now a_aside a_past a_kept a_sights a_text a_weights a_tried a_row a_who a_order a_bestOrder a_costs a_taken f_undos f_keptMany f_sightMany f_size f_at f_value f_above f_below f_paid f_post f_now f_who f_order f_bestOrder x1 hR _ (nI 0) f_weights f_tried f_row f_costs hs
def LX9_waitingOnes_4 (f_post : Nat → Int32) (f_now : Nat → Int32) : Nat → Int32 → Int32 → (Nat → Int32) → Option (Int32 × (Nat → Int32))
  | 0, _, _, _ => none
  | n + 1, y_1, y_2, f_who =>
    vi ((f_post (Int32.toNatClampNeg (nI 2))) ≤ y_2) inferInstance (
      some (y_1, f_who)) (
      vb (sX9_waits f_now y_2) fun z2 =>
      vi (z2 = 0) inferInstance (
        vlet (y_2 + (nI 1)) fun y4 =>
        LX9_waitingOnes_4 f_post f_now n y_1 y4 f_who) (
        vg (vin y_1 5) (
        vlet (upd f_who (Int32.toNatClampNeg y_1) y_2) fun u6 =>
        vlet (y_1 + (nI 1)) fun y7 =>
        vlet (y_2 + (nI 1)) fun y8 =>
        LX9_waitingOnes_4 f_post f_now n y7 y8 u6)))
def sX9_waitingOnes (f_post : Nat → Int32) (f_now : Nat → Int32) (f_who : Nat → Int32) : Option (Int32 × (Nat → Int32)) :=
  LX9_waitingOnes_4 f_post f_now vF (nI 0) (nI 0) f_who
abbrev rmX9_waitingOnes : Room := { frames := 1, cells := 0, slots := 0, locals := 21 }
set_option maxHeartbeats 4000000 in
set_option maxRecDepth 100000 in
theorem LX9_waitingOnes_4_w {cI : ClassId} {X : xT} (C : cx cI X 3 cX9_waitingOnes RX9 rmX9_waitingOnes) (h : Nat) (a_post : Nat) (a_read : Nat) (a_now : Nat) (a_aside : Nat) (a_past : Nat) (a_kept : Nat) (a_sights : Nat) (a_text : Nat) (a_weights : Nat) (a_tried : Nat) (a_row : Nat) (a_who : Nat) (a_order : Nat) (a_bestOrder : Nat) (a_costs : Nat) (a_taken : Nat) (f_undos : Int32) (f_keptMany : Int32) (f_sightMany : Int32) (f_size : Int32) (f_at : Int32) (f_value : Int32) (f_above : Int64) (f_below : Int64) (f_paid : Int32) (f_post : Nat → Int32) (f_now : Nat → Int32) {z : Int32 × (Nat → Int32)} (hR : ∀ (lv : List (Nat × Value)) (pc : Nat), decode cX9_waitingOnes pc = .ok (.ireturn, 1) → gg cI X 3 0 0 [oX9 h a_post a_read a_now a_aside a_past f_undos a_kept f_keptMany a_sights f_sightMany a_text f_size f_at f_value a_weights a_tried f_above f_below f_paid a_row a_who a_order a_bestOrder a_costs a_taken, aI cI a_post 52 f_post, aI cI a_now 50 f_now, aI cI a_who 5 z.2] lv pc [.int z.1]) : ∀ (n : Nat) (y_1 : Int32) (y_2 : Int32) (f_who : Nat → Int32), LX9_waitingOnes_4 f_post f_now n y_1 y_2 f_who = some z → gg cI X 3 0 0 [oX9 h a_post a_read a_now a_aside a_past f_undos a_kept f_keptMany a_sights f_sightMany a_text f_size f_at f_value a_weights a_tried f_above f_below f_paid a_row a_who a_order a_bestOrder a_costs a_taken, aI cI a_post 52 f_post, aI cI a_now 50 f_now, aI cI a_who 5 f_who] [(0, .ref h), (1, .int y_1), (2, .int y_2)] 4 [] := by
  intro n
  induction n with
  | zero =>
    intro y_1 y_2 f_who hs
    exact nn_ok hs
  | succ n ih =>
    intro y_1 y_2 f_who hs
    rw [LX9_waitingOnes_4] at hs
    refine g_iload_n (pl := 2) C dX9_waitingOnes_4 rfl rfl ?_
    refine g_aload_n (pl := 0) C dX9_waitingOnes_5 rfl rfl ?_
    refine g_get C fX9_7 0 rfl rfl dX9_waitingOnes_6 ?_
    refine g_iconst (v := (nI 2)) C dX9_waitingOnes_9 rfl ?_
    refine g_iald C 1 rfl (vin_ok rfl) dX9_waitingOnes_10 ?_
    refine g_icmp_ge (tgt := 38) C dX9_waitingOnes_11 (by decide) (fun c1 => ?_) (fun c1 => ?_)
    · replace hs := vi_t hs c1
      refine g_iload_n (pl := 1) C dX9_waitingOnes_38 rfl rfl ?_
      cases hs
      exact hR _ _ dX9_waitingOnes_39
    · replace hs := vi_f hs c1
      refine g_aload_n (pl := 0) C dX9_waitingOnes_14 rfl rfl ?_
      refine g_iload_n (pl := 2) C dX9_waitingOnes_15 rfl rfl ?_
      obtain ⟨z2, e_z2, hs⟩ := vb_ok hs
      refine g_callV (ws' := [oX9 h a_post a_read a_now a_aside a_past f_undos a_kept f_keptMany a_sights f_sightMany a_text f_size f_at f_value a_weights a_tried f_above f_below f_paid a_row a_who a_order a_bestOrder a_costs a_taken, aI cI a_post 52 f_post, aI cI a_now 50 f_now, aI cI a_who 5 f_who]) (rest := []) (st' := [.int z2]) C mX9_206 q5_109 [.int y_2] (fun l D => cX9_waits_ct l D cI h a_post a_read a_now a_aside a_past a_kept a_sights a_text a_weights a_tried a_row a_who a_order a_bestOrder a_costs a_taken f_undos f_keptMany f_sightMany f_size f_at f_value f_above f_below f_paid f_now y_2 e_z2) ⟨⟨rfl, rfl⟩, Nat.le_of_ble_eq_true rfl, Nat.le_of_ble_eq_true rfl⟩ 0 rfl rfl rfl [0, 2] rfl rfl rfl rfl rfl (Nat.le_of_ble_eq_true rfl) (Nat.zero_le _) (Nat.zero_le _) rfl dX9_waitingOnes_16 ?_
      refine g_if_eq (tgt := 32) C dX9_waitingOnes_19 (by decide) (fun c3 => ?_) (fun c3 => ?_)
      · replace hs := vi_t hs c3
        obtain ⟨y4, e_y4, hs⟩ := vlet_ex hs
        refine g_iinc (pl := 2) (lv' := [(2, .int y4), (0, .ref h), (1, .int y_1)]) C dX9_waitingOnes_32 rfl e_y4.symm (by decide) rfl ?_
        refine g_goto (tgt := 4) C dX9_waitingOnes_35 (by decide) ?_
        refine g_sub [1, 2, 0] rfl ?_
        exact ih y_1 y4 f_who hs
      · replace hs := vi_f hs c3
        refine g_aload_n (pl := 0) C dX9_waitingOnes_22 rfl rfl ?_
        refine g_get C fX9_43 0 rfl rfl dX9_waitingOnes_23 ?_
        refine g_iload_n (pl := 1) C dX9_waitingOnes_26 rfl rfl ?_
        refine g_iload_n (pl := 2) C dX9_waitingOnes_27 rfl rfl ?_
        obtain ⟨b5, hs⟩ := vg_ok hs
        obtain ⟨u6, e_u6, hs⟩ := vlet_ex hs
        refine g_iast (ws' := [oX9 h a_post a_read a_now a_aside a_past f_undos a_kept f_keptMany a_sights f_sightMany a_text f_size f_at f_value a_weights a_tried f_above f_below f_paid a_row a_who a_order a_bestOrder a_costs a_taken, aI cI a_post 52 f_post, aI cI a_now 50 f_now, aI cI a_who 5 u6]) C 3 rfl (vin_ok b5) (by rw [e_u6]; rfl) dX9_waitingOnes_28 ?_
        obtain ⟨y7, e_y7, hs⟩ := vlet_ex hs
        refine g_iinc (pl := 1) (lv' := [(1, .int y7), (0, .ref h), (2, .int y_2)]) C dX9_waitingOnes_29 rfl e_y7.symm (by decide) rfl ?_
        obtain ⟨y8, e_y8, hs⟩ := vlet_ex hs
        refine g_iinc (pl := 2) (lv' := [(2, .int y8), (1, .int y7), (0, .ref h)]) C dX9_waitingOnes_32 rfl e_y8.symm (by decide) rfl ?_
        refine g_goto (tgt := 4) C dX9_waitingOnes_35 (by decide) ?_
        refine g_sub [2, 1, 0] rfl ?_
        exact ih y7 y8 u6 hs
set_option maxHeartbeats 4000000 in
set_option maxRecDepth 100000 in
theorem cX9_waitingOnes_ct (l : Launch) (D : va_G) (cI : ClassId) (h : Nat) (a_post : Nat) (a_read : Nat) (a_now : Nat) (a_aside : Nat) (a_past : Nat) (a_kept : Nat) (a_sights : Nat) (a_text : Nat) (a_weights : Nat) (a_tried : Nat) (a_row : Nat) (a_who : Nat) (a_order : Nat) (a_bestOrder : Nat) (a_costs : Nat) (a_taken : Nat) (f_undos : Int32) (f_keptMany : Int32) (f_sightMany : Int32) (f_size : Int32) (f_at : Int32) (f_value : Int32) (f_above : Int64) (f_below : Int64) (f_paid : Int32) (f_post : Nat → Int32) (f_now : Nat → Int32) (f_who : Nat → Int32) {z : Int32 × (Nat → Int32)} (hs : sX9_waitingOnes f_post f_now f_who = some z) : ct l yX9_waitingOnes (.code yX9_waitingOnes cX9_waitingOnes 3 (some .int) :: gtb) rmX9_waitingOnes D cI [.ref h] [oX9 h a_post a_read a_now a_aside a_past f_undos a_kept f_keptMany a_sights f_sightMany a_text f_size f_at f_value a_weights a_tried f_above f_below f_paid a_row a_who a_order a_bestOrder a_costs a_taken, aI cI a_post 52 f_post, aI cI a_now 50 f_now, aI cI a_who 5 f_who] (some (.int z.1)) [oX9 h a_post a_read a_now a_aside a_past f_undos a_kept f_keptMany a_sights f_sightMany a_text f_size f_at f_value a_weights a_tried f_above f_below f_paid a_row a_who a_order a_bestOrder a_costs a_taken, aI cI a_post 52 f_post, aI cI a_now 50 f_now, aI cI a_who 5 z.2] := by
  refine ct_ofI (own := RX9) (by decide +kernel) rfl (Nat.le_of_ble_eq_true rfl) (fun X C hD hR => ?_)
  unfold sX9_waitingOnes at hs
  show gg cI X 3 0 0 [oX9 h a_post a_read a_now a_aside a_past f_undos a_kept f_keptMany a_sights f_sightMany a_text f_size f_at f_value a_weights a_tried f_above f_below f_paid a_row a_who a_order a_bestOrder a_costs a_taken, aI cI a_post 52 f_post, aI cI a_now 50 f_now, aI cI a_who 5 f_who] [(0, .ref h)] 0 []
  refine g_iconst (v := (nI 0)) C dX9_waitingOnes_0 rfl ?_
  refine g_istore_n (lv' := [(1, .int (nI 0)), (0, .ref h)]) C dX9_waitingOnes_1 rfl (by decide) rfl ?_
  refine g_iconst (v := (nI 0)) C dX9_waitingOnes_2 rfl ?_
  refine g_istore_n (lv' := [(2, .int (nI 0)), (1, .int (nI 0)), (0, .ref h)]) C dX9_waitingOnes_3 rfl (by decide) rfl ?_
  refine g_sub [2, 1, 0] rfl ?_
  exact LX9_waitingOnes_4_w C h a_post a_read a_now a_aside a_past a_kept a_sights a_text a_weights a_tried a_row a_who a_order a_bestOrder a_costs a_taken f_undos f_keptMany f_sightMany f_size f_at f_value f_above f_below f_paid f_post f_now hR _ (nI 0) (nI 0) f_who hs
def sX9_queue (f_post : Nat → Int32) (f_now : Nat → Int32) (f_weights : Nat → Int32) (f_tried : Nat → Int32) (f_row : Nat → Int32) (f_who : Nat → Int32) (f_order : Nat → Int32) (f_bestOrder : Nat → Int32) (f_costs : Nat → Int32) (x1 : Int32) : Option (Int32 × (Nat → Int32) × (Nat → Int32) × (Nat → Int32) × (Nat → Int32) × (Nat → Int32) × (Nat → Int32) × (Nat → Int32)) :=
  vi ((-1) ≤ x1) inferInstance (
    vb (sX9_waitingOnes f_post f_now f_who) fun z2 =>
    vb (sX9_queues f_post f_now f_weights f_tried f_row z2.2 f_order f_bestOrder f_costs z2.1) fun z3 =>
    vi (x1 = (-1)) inferInstance (
      some (z3.1, z3.2.1, z3.2.2.1, z3.2.2.2.1, z2.2, z3.2.2.2.2.1, z3.2.2.2.2.2.1, z3.2.2.2.2.2.2)) (
      vi (z2.1 ≤ x1) inferInstance (
        some ((-4), z3.2.1, z3.2.2.1, z3.2.2.2.1, z2.2, z3.2.2.2.2.1, z3.2.2.2.2.2.1, z3.2.2.2.2.2.2)) (
        vg (vin x1 5) (
        vg (vin (z3.2.2.2.2.2.1 (Int32.toNatClampNeg x1)) 5) (
        some (z2.2 (Int32.toNatClampNeg (z3.2.2.2.2.2.1 (Int32.toNatClampNeg x1))), z3.2.1, z3.2.2.1, z3.2.2.2.1, z2.2, z3.2.2.2.2.1, z3.2.2.2.2.2.1, z3.2.2.2.2.2.2)))))) (
    some ((-1), f_weights, f_tried, f_row, f_who, f_order, f_bestOrder, f_costs))
abbrev rmX9_queue : Room := { frames := 7, cells := 0, slots := 0, locals := 173 }
set_option maxHeartbeats 4000000 in
set_option maxRecDepth 100000 in
theorem cX9_queue_ct (l : Launch) (D : va_G) (cI : ClassId) (h : Nat) (a_post : Nat) (a_read : Nat) (a_now : Nat) (a_aside : Nat) (a_past : Nat) (a_kept : Nat) (a_sights : Nat) (a_text : Nat) (a_weights : Nat) (a_tried : Nat) (a_row : Nat) (a_who : Nat) (a_order : Nat) (a_bestOrder : Nat) (a_costs : Nat) (a_taken : Nat) (f_undos : Int32) (f_keptMany : Int32) (f_sightMany : Int32) (f_size : Int32) (f_at : Int32) (f_value : Int32) (f_above : Int64) (f_below : Int64) (f_paid : Int32) (f_post : Nat → Int32) (f_now : Nat → Int32) (f_weights : Nat → Int32) (f_tried : Nat → Int32) (f_row : Nat → Int32) (f_who : Nat → Int32) (f_order : Nat → Int32) (f_bestOrder : Nat → Int32) (f_costs : Nat → Int32) (x1 : Int32) {z : Int32 × (Nat → Int32) × (Nat → Int32) × (Nat → Int32) × (Nat → Int32) × (Nat → Int32) × (Nat → Int32) × (Nat → Int32)} (hs : sX9_queue f_post f_now f_weights f_tried f_row f_who f_order f_bestOrder f_costs x1 = some z) : ct l yX9_queue (.code yX9_queue cX9_queue 4 (some .int) :: gtb) rmX9_queue D cI [.ref h, .int x1] [oX9 h a_post a_read a_now a_aside a_past f_undos a_kept f_keptMany a_sights f_sightMany a_text f_size f_at f_value a_weights a_tried f_above f_below f_paid a_row a_who a_order a_bestOrder a_costs a_taken, aI cI a_post 52 f_post, aI cI a_now 50 f_now, aI cI a_weights 8 f_weights, aI cI a_tried 8 f_tried, aI cI a_row 3 f_row, aI cI a_who 5 f_who, aI cI a_order 5 f_order, aI cI a_bestOrder 5 f_bestOrder, aI cI a_costs 25 f_costs] (some (.int z.1)) [oX9 h a_post a_read a_now a_aside a_past f_undos a_kept f_keptMany a_sights f_sightMany a_text f_size f_at f_value a_weights a_tried f_above f_below f_paid a_row a_who a_order a_bestOrder a_costs a_taken, aI cI a_post 52 f_post, aI cI a_now 50 f_now, aI cI a_weights 8 z.2.1, aI cI a_tried 8 z.2.2.1, aI cI a_row 3 z.2.2.2.1, aI cI a_who 5 z.2.2.2.2.1, aI cI a_order 5 z.2.2.2.2.2.1, aI cI a_bestOrder 5 z.2.2.2.2.2.2.1, aI cI a_costs 25 z.2.2.2.2.2.2.2] := by
  refine ct_ofI (own := RX9) (by decide +kernel) rfl (Nat.le_of_ble_eq_true rfl) (fun X C hD hR => ?_)
  unfold sX9_queue at hs
  show gg cI X 4 0 0 [oX9 h a_post a_read a_now a_aside a_past f_undos a_kept f_keptMany a_sights f_sightMany a_text f_size f_at f_value a_weights a_tried f_above f_below f_paid a_row a_who a_order a_bestOrder a_costs a_taken, aI cI a_post 52 f_post, aI cI a_now 50 f_now, aI cI a_weights 8 f_weights, aI cI a_tried 8 f_tried, aI cI a_row 3 f_row, aI cI a_who 5 f_who, aI cI a_order 5 f_order, aI cI a_bestOrder 5 f_bestOrder, aI cI a_costs 25 f_costs] [(0, .ref h), (1, .int x1)] 0 []
  refine g_iload_n (pl := 1) C dX9_queue_0 rfl rfl ?_
  refine g_iconst (v := (-1)) C dX9_queue_1 rfl ?_
  refine g_icmp_ge (tgt := 7) C dX9_queue_2 (by decide) (fun c1 => ?_) (fun c1 => ?_)
  · replace hs := vi_t hs c1
    refine g_aload_n (pl := 0) C dX9_queue_7 rfl rfl ?_
    obtain ⟨z2, e_z2, hs⟩ := vb_ok hs
    refine g_callV (ws' := [oX9 h a_post a_read a_now a_aside a_past f_undos a_kept f_keptMany a_sights f_sightMany a_text f_size f_at f_value a_weights a_tried f_above f_below f_paid a_row a_who a_order a_bestOrder a_costs a_taken, aI cI a_post 52 f_post, aI cI a_now 50 f_now, aI cI a_weights 8 f_weights, aI cI a_tried 8 f_tried, aI cI a_row 3 f_row, aI cI a_who 5 z2.2, aI cI a_order 5 f_order, aI cI a_bestOrder 5 f_bestOrder, aI cI a_costs 25 f_costs]) (rest := []) (st' := [.int z2.1]) C mX9_264 q5_208 [] (fun l D => cX9_waitingOnes_ct l D cI h a_post a_read a_now a_aside a_past a_kept a_sights a_text a_weights a_tried a_row a_who a_order a_bestOrder a_costs a_taken f_undos f_keptMany f_sightMany f_size f_at f_value f_above f_below f_paid f_post f_now f_who e_z2) ⟨⟨rfl, rfl⟩, Nat.le_of_ble_eq_true rfl, Nat.le_of_ble_eq_true rfl⟩ 0 rfl rfl rfl [0, 1, 2, 6] rfl rfl rfl rfl rfl (Nat.le_of_ble_eq_true rfl) (Nat.zero_le _) (Nat.zero_le _) rfl dX9_queue_8 ?_
    refine g_istore_n (lv' := [(2, .int z2.1), (0, .ref h), (1, .int x1)]) C dX9_queue_11 rfl (by decide) rfl ?_
    refine g_aload_n (pl := 1) C dX9_queue_12 rfl rfl ?_
    refine g_iload_n (pl := 0) C dX9_queue_13 rfl rfl ?_
    obtain ⟨z3, e_z3, hs⟩ := vb_ok hs
    refine g_callV (ws' := [oX9 h a_post a_read a_now a_aside a_past f_undos a_kept f_keptMany a_sights f_sightMany a_text f_size f_at f_value a_weights a_tried f_above f_below f_paid a_row a_who a_order a_bestOrder a_costs a_taken, aI cI a_post 52 f_post, aI cI a_now 50 f_now, aI cI a_weights 8 z3.2.1, aI cI a_tried 8 z3.2.2.1, aI cI a_row 3 z3.2.2.2.1, aI cI a_who 5 z2.2, aI cI a_order 5 z3.2.2.2.2.1, aI cI a_bestOrder 5 z3.2.2.2.2.2.1, aI cI a_costs 25 z3.2.2.2.2.2.2]) (rest := []) (st' := [.int z3.1]) C mX9_267 q5_212 [.int z2.1] (fun l D => cX9_queues_ct l D cI h a_post a_read a_now a_aside a_past a_kept a_sights a_text a_weights a_tried a_row a_who a_order a_bestOrder a_costs a_taken f_undos f_keptMany f_sightMany f_size f_at f_value f_above f_below f_paid f_post f_now f_weights f_tried f_row z2.2 f_order f_bestOrder f_costs z2.1 e_z3) ⟨⟨rfl, rfl⟩, Nat.le_of_ble_eq_true rfl, Nat.le_of_ble_eq_true rfl⟩ 0 rfl rfl rfl [0, 1, 2, 3, 4, 5, 6, 7, 8, 9] rfl rfl rfl (by simp only [setM, List.set_cons_zero, List.set_cons_succ]) rfl (Nat.le_of_ble_eq_true rfl) (Nat.zero_le _) (Nat.zero_le _) rfl dX9_queue_14 ?_
    refine g_istore_n (lv' := [(3, .int z3.1), (2, .int z2.1), (0, .ref h), (1, .int x1)]) C dX9_queue_17 rfl (by decide) rfl ?_
    refine g_iload_n (pl := 3) C dX9_queue_18 rfl rfl ?_
    refine g_iconst (v := (-1)) C dX9_queue_19 rfl ?_
    refine g_icmp_ne (tgt := 27) C dX9_queue_20 (by decide) (fun c4 => ?_) (fun c4 => ?_)
    · replace hs := vi_f hs c4
      refine g_iload_n (pl := 3) C dX9_queue_27 rfl rfl ?_
      refine g_iload_n (pl := 1) C dX9_queue_28 rfl rfl ?_
      refine g_icmp_ge (tgt := 46) C dX9_queue_29 (by decide) (fun c5 => ?_) (fun c5 => ?_)
      · replace hs := vi_t hs c5
        refine g_bipush (v := (-4)) C dX9_queue_46 rfl ?_
        cases hs
        exact hR _ _ dX9_queue_48
      · replace hs := vi_f hs c5
        refine g_aload_n (pl := 2) C dX9_queue_32 rfl rfl ?_
        refine g_get C fX9_43 0 rfl rfl dX9_queue_33 ?_
        refine g_aload_n (pl := 2) C dX9_queue_36 rfl rfl ?_
        refine g_get C fX9_49 0 rfl rfl dX9_queue_37 ?_
        refine g_iload_n (pl := 3) C dX9_queue_40 rfl rfl ?_
        obtain ⟨b6, hs⟩ := vg_ok hs
        refine g_iald C 8 rfl (vin_ok b6) dX9_queue_41 ?_
        obtain ⟨b7, hs⟩ := vg_ok hs
        refine g_iald C 6 rfl (vin_ok b7) dX9_queue_42 ?_
        refine g_goto (tgt := 48) C dX9_queue_43 (by decide) ?_
        cases hs
        exact hR _ _ dX9_queue_48
    · replace hs := vi_t hs c4
      refine g_iload_n (pl := 0) C dX9_queue_23 rfl rfl ?_
      refine g_goto (tgt := 48) C dX9_queue_24 (by decide) ?_
      cases hs
      exact hR _ _ dX9_queue_48
  · replace hs := vi_f hs c1
    refine g_iconst (v := (-1)) C dX9_queue_5 rfl ?_
    cases hs
    exact hR _ _ dX9_queue_6
def LX9_parted_28 (y_1 : Int32) (y_2 : Int32) (f_post : Nat → Int32) : Nat → Int32 → Int32 → Option (Int32)
  | 0, _, _ => none
  | n + 1, y_3, y_4 =>
    vb (sX9_signs f_post) fun z1 =>
    vi (z1 ≤ y_4) inferInstance (
      some (y_3)) (
      vb (sX9_times f_post (nI 0) y_1 y_4 (f_post (Int32.toNatClampNeg (nI 4))) (f_post (Int32.toNatClampNeg (nI 5)))) fun z3 =>
      vb (sX9_times f_post (nI 0) y_2 y_4 (f_post (Int32.toNatClampNeg (nI 4))) (f_post (Int32.toNatClampNeg (nI 5)))) fun z4 =>
      vi (z3 = z4) inferInstance (
        vlet (y_3 ||| (nI 0)) fun y10 =>
        vlet (y_4 + (nI 1)) fun y11 =>
        LX9_parted_28 y_1 y_2 f_post n y10 y11) (
        vlet (y_3 ||| ((nI 1) <<< (y_4 &&& 31))) fun y7 =>
        vlet (y_4 + (nI 1)) fun y8 =>
        LX9_parted_28 y_1 y_2 f_post n y7 y8))
def sX9_parted (f_post : Nat → Int32) (x1 : Int32) (x2 : Int32) : Option (Int32) :=
  vb (sX9_isWord f_post x1) fun z12 =>
  vi (z12 = 0) inferInstance (
    some ((-1))) (
    vb (sX9_isWord f_post x2) fun z14 =>
    vi (z14 = 0) inferInstance (
      some ((-1))) (
      vi (x1 = x2) inferInstance (
        some ((-1))) (
        LX9_parted_28 x1 x2 f_post vF (nI 0) (nI 0))))
abbrev rmX9_parted : Room := { frames := 3, cells := 0, slots := 0, locals := 71 }
set_option maxHeartbeats 4000000 in
set_option maxRecDepth 100000 in
theorem LX9_parted_28_w {cI : ClassId} {X : xT} (C : cx cI X 6 cX9_parted RX9 rmX9_parted) (h : Nat) (a_post : Nat) (a_read : Nat) (a_now : Nat) (a_aside : Nat) (a_past : Nat) (a_kept : Nat) (a_sights : Nat) (a_text : Nat) (a_weights : Nat) (a_tried : Nat) (a_row : Nat) (a_who : Nat) (a_order : Nat) (a_bestOrder : Nat) (a_costs : Nat) (a_taken : Nat) (f_undos : Int32) (f_keptMany : Int32) (f_sightMany : Int32) (f_size : Int32) (f_at : Int32) (f_value : Int32) (f_above : Int64) (f_below : Int64) (f_paid : Int32) (f_post : Nat → Int32) (y_1 : Int32) (y_2 : Int32) {z : Int32} (hR : ∀ (lv : List (Nat × Value)) (pc : Nat), decode cX9_parted pc = .ok (.ireturn, 1) → gg cI X 6 0 0 [oX9 h a_post a_read a_now a_aside a_past f_undos a_kept f_keptMany a_sights f_sightMany a_text f_size f_at f_value a_weights a_tried f_above f_below f_paid a_row a_who a_order a_bestOrder a_costs a_taken, aI cI a_post 52 f_post] lv pc [.int z]) : ∀ (n : Nat) (y_3 : Int32) (y_4 : Int32), LX9_parted_28 y_1 y_2 f_post n y_3 y_4 = some z → gg cI X 6 0 0 [oX9 h a_post a_read a_now a_aside a_past f_undos a_kept f_keptMany a_sights f_sightMany a_text f_size f_at f_value a_weights a_tried f_above f_below f_paid a_row a_who a_order a_bestOrder a_costs a_taken, aI cI a_post 52 f_post] [(0, .ref h), (1, .int y_1), (2, .int y_2), (3, .int y_3), (4, .int y_4)] 28 [] := by
  intro n
  induction n with
  | zero =>
    intro y_3 y_4 hs
    exact nn_ok hs
  | succ n ih =>
    intro y_3 y_4 hs
    rw [LX9_parted_28] at hs
    refine g_iload (pl := 4) C dX9_parted_28 rfl ?_
    refine g_aload_n (pl := 0) C dX9_parted_30 rfl rfl ?_
    obtain ⟨z1, e_z1, hs⟩ := vb_ok hs
    refine g_callV (ws' := [oX9 h a_post a_read a_now a_aside a_past f_undos a_kept f_keptMany a_sights f_sightMany a_text f_size f_at f_value a_weights a_tried f_above f_below f_paid a_row a_who a_order a_bestOrder a_costs a_taken, aI cI a_post 52 f_post]) (rest := [.int y_4]) (st' := [.int z1, .int y_4]) C mX9_152 q5_53 [] (fun l D => cX9_signs_ct l D cI h a_post a_read a_now a_aside a_past a_kept a_sights a_text a_weights a_tried a_row a_who a_order a_bestOrder a_costs a_taken f_undos f_keptMany f_sightMany f_size f_at f_value f_above f_below f_paid f_post e_z1) ⟨⟨rfl, rfl⟩, Nat.le_of_ble_eq_true rfl, Nat.le_of_ble_eq_true rfl⟩ 0 rfl rfl rfl [0, 1] rfl rfl rfl rfl rfl (Nat.le_of_ble_eq_true rfl) (Nat.zero_le _) (Nat.zero_le _) rfl dX9_parted_31 ?_
    refine g_icmp_ge (tgt := 109) C dX9_parted_34 (by decide) (fun c2 => ?_) (fun c2 => ?_)
    · replace hs := vi_t hs c2
      refine g_iload_n (pl := 3) C dX9_parted_109 rfl rfl ?_
      cases hs
      exact hR _ _ dX9_parted_110
    · replace hs := vi_f hs c2
      refine g_aload_n (pl := 0) C dX9_parted_37 rfl rfl ?_
      refine g_iconst (v := (nI 0)) C dX9_parted_38 rfl ?_
      refine g_iload_n (pl := 1) C dX9_parted_39 rfl rfl ?_
      refine g_iload (pl := 4) C dX9_parted_40 rfl ?_
      refine g_aload_n (pl := 0) C dX9_parted_42 rfl rfl ?_
      refine g_get C fX9_7 0 rfl rfl dX9_parted_43 ?_
      refine g_iconst (v := (nI 4)) C dX9_parted_46 rfl ?_
      refine g_iald C 1 rfl (vin_ok rfl) dX9_parted_47 ?_
      refine g_aload_n (pl := 0) C dX9_parted_48 rfl rfl ?_
      refine g_get C fX9_7 0 rfl rfl dX9_parted_49 ?_
      refine g_iconst (v := (nI 5)) C dX9_parted_52 rfl ?_
      refine g_iald C 1 rfl (vin_ok rfl) dX9_parted_53 ?_
      obtain ⟨z3, e_z3, hs⟩ := vb_ok hs
      refine g_callV (ws' := [oX9 h a_post a_read a_now a_aside a_past f_undos a_kept f_keptMany a_sights f_sightMany a_text f_size f_at f_value a_weights a_tried f_above f_below f_paid a_row a_who a_order a_bestOrder a_costs a_taken, aI cI a_post 52 f_post]) (rest := []) (st' := [.int z3]) C mX9_175 q5_81 [.int (nI 0), .int y_1, .int y_4, .int (f_post (Int32.toNatClampNeg (nI 4))), .int (f_post (Int32.toNatClampNeg (nI 5)))] (fun l D => cX9_times_ct l D cI h a_post a_read a_now a_aside a_past a_kept a_sights a_text a_weights a_tried a_row a_who a_order a_bestOrder a_costs a_taken f_undos f_keptMany f_sightMany f_size f_at f_value f_above f_below f_paid f_post (nI 0) y_1 y_4 (f_post (Int32.toNatClampNeg (nI 4))) (f_post (Int32.toNatClampNeg (nI 5))) e_z3) ⟨⟨rfl, rfl⟩, Nat.le_of_ble_eq_true rfl, Nat.le_of_ble_eq_true rfl⟩ 0 rfl rfl rfl [0, 1] rfl rfl rfl rfl rfl (Nat.le_of_ble_eq_true rfl) (Nat.zero_le _) (Nat.zero_le _) rfl dX9_parted_54 ?_
      refine g_aload_n (pl := 0) C dX9_parted_57 rfl rfl ?_
      refine g_iconst (v := (nI 0)) C dX9_parted_58 rfl ?_
      refine g_iload_n (pl := 2) C dX9_parted_59 rfl rfl ?_
      refine g_iload (pl := 4) C dX9_parted_60 rfl ?_
      refine g_aload_n (pl := 0) C dX9_parted_62 rfl rfl ?_
      refine g_get C fX9_7 0 rfl rfl dX9_parted_63 ?_
      refine g_iconst (v := (nI 4)) C dX9_parted_66 rfl ?_
      refine g_iald C 1 rfl (vin_ok rfl) dX9_parted_67 ?_
      refine g_aload_n (pl := 0) C dX9_parted_68 rfl rfl ?_
      refine g_get C fX9_7 0 rfl rfl dX9_parted_69 ?_
      refine g_iconst (v := (nI 5)) C dX9_parted_72 rfl ?_
      refine g_iald C 1 rfl (vin_ok rfl) dX9_parted_73 ?_
      obtain ⟨z4, e_z4, hs⟩ := vb_ok hs
      refine g_callV (ws' := [oX9 h a_post a_read a_now a_aside a_past f_undos a_kept f_keptMany a_sights f_sightMany a_text f_size f_at f_value a_weights a_tried f_above f_below f_paid a_row a_who a_order a_bestOrder a_costs a_taken, aI cI a_post 52 f_post]) (rest := [.int z3]) (st' := [.int z4, .int z3]) C mX9_175 q5_81 [.int (nI 0), .int y_2, .int y_4, .int (f_post (Int32.toNatClampNeg (nI 4))), .int (f_post (Int32.toNatClampNeg (nI 5)))] (fun l D => cX9_times_ct l D cI h a_post a_read a_now a_aside a_past a_kept a_sights a_text a_weights a_tried a_row a_who a_order a_bestOrder a_costs a_taken f_undos f_keptMany f_sightMany f_size f_at f_value f_above f_below f_paid f_post (nI 0) y_2 y_4 (f_post (Int32.toNatClampNeg (nI 4))) (f_post (Int32.toNatClampNeg (nI 5))) e_z4) ⟨⟨rfl, rfl⟩, Nat.le_of_ble_eq_true rfl, Nat.le_of_ble_eq_true rfl⟩ 0 rfl rfl rfl [0, 1] rfl rfl rfl rfl rfl (Nat.le_of_ble_eq_true rfl) (Nat.zero_le _) (Nat.zero_le _) rfl dX9_parted_74 ?_
      refine g_icmp_ne (tgt := 84) C dX9_parted_77 (by decide) (fun c5 => ?_) (fun c5 => ?_)
      · replace hs := vi_f hs c5
        refine g_iconst (v := (nI 0)) C dX9_parted_84 rfl ?_
        refine g_istore (lv' := [(5, .int (nI 0)), (0, .ref h), (1, .int y_1), (2, .int y_2), (3, .int y_3), (4, .int y_4)]) C dX9_parted_85 (by decide) rfl ?_
        refine g_iload_n (pl := 4) C dX9_parted_87 rfl rfl ?_
        refine g_iload (pl := 0) C dX9_parted_88 rfl ?_
        refine g_if_eq (tgt := 97) C dX9_parted_90 (by decide) (fun c6 => ?_) (fun c6 => ?_)
        rotate_left
        · exact absurd c6 (by decide)
        refine g_iconst (v := (nI 1)) C dX9_parted_97 rfl ?_
        refine g_iload (pl := 5) C dX9_parted_98 rfl ?_
        refine g_ishl C dX9_parted_100 ?_
        refine g_ior C dX9_parted_101 ?_
        obtain ⟨y7, e_y7, hs⟩ := vlet_ex hs
        refine g_topi e_y7 ?_
        refine g_istore_n (lv' := [(3, .int y7), (5, .int (nI 0)), (0, .ref h), (1, .int y_1), (2, .int y_2), (4, .int y_4)]) C dX9_parted_102 rfl (by decide) rfl ?_
        obtain ⟨y8, e_y8, hs⟩ := vlet_ex hs
        refine g_iinc (pl := 5) (lv' := [(4, .int y8), (3, .int y7), (5, .int (nI 0)), (0, .ref h), (1, .int y_1), (2, .int y_2)]) C dX9_parted_103 rfl e_y8.symm (by decide) rfl ?_
        refine g_goto (tgt := 28) C dX9_parted_106 (by decide) ?_
        refine g_sub [3, 4, 5, 1, 0] rfl ?_
        exact ih y7 y8 hs
      · replace hs := vi_t hs c5
        refine g_iconst (v := (nI 1)) C dX9_parted_80 rfl ?_
        refine g_goto (tgt := 85) C dX9_parted_81 (by decide) ?_
        refine g_istore (lv' := [(5, .int (nI 1)), (0, .ref h), (1, .int y_1), (2, .int y_2), (3, .int y_3), (4, .int y_4)]) C dX9_parted_85 (by decide) rfl ?_
        refine g_iload_n (pl := 4) C dX9_parted_87 rfl rfl ?_
        refine g_iload (pl := 0) C dX9_parted_88 rfl ?_
        refine g_if_eq (tgt := 97) C dX9_parted_90 (by decide) (fun c9 => ?_) (fun c9 => ?_)
        · exact absurd c9 (by decide)
        refine g_iconst (v := (nI 0)) C dX9_parted_93 rfl ?_
        refine g_goto (tgt := 101) C dX9_parted_94 (by decide) ?_
        refine g_ior C dX9_parted_101 ?_
        obtain ⟨y10, e_y10, hs⟩ := vlet_ex hs
        refine g_topi e_y10 ?_
        refine g_istore_n (lv' := [(3, .int y10), (5, .int (nI 1)), (0, .ref h), (1, .int y_1), (2, .int y_2), (4, .int y_4)]) C dX9_parted_102 rfl (by decide) rfl ?_
        obtain ⟨y11, e_y11, hs⟩ := vlet_ex hs
        refine g_iinc (pl := 5) (lv' := [(4, .int y11), (3, .int y10), (5, .int (nI 1)), (0, .ref h), (1, .int y_1), (2, .int y_2)]) C dX9_parted_103 rfl e_y11.symm (by decide) rfl ?_
        refine g_goto (tgt := 28) C dX9_parted_106 (by decide) ?_
        refine g_sub [3, 4, 5, 1, 0] rfl ?_
        exact ih y10 y11 hs
set_option maxHeartbeats 4000000 in
set_option maxRecDepth 100000 in
theorem cX9_parted_ct (l : Launch) (D : va_G) (cI : ClassId) (h : Nat) (a_post : Nat) (a_read : Nat) (a_now : Nat) (a_aside : Nat) (a_past : Nat) (a_kept : Nat) (a_sights : Nat) (a_text : Nat) (a_weights : Nat) (a_tried : Nat) (a_row : Nat) (a_who : Nat) (a_order : Nat) (a_bestOrder : Nat) (a_costs : Nat) (a_taken : Nat) (f_undos : Int32) (f_keptMany : Int32) (f_sightMany : Int32) (f_size : Int32) (f_at : Int32) (f_value : Int32) (f_above : Int64) (f_below : Int64) (f_paid : Int32) (f_post : Nat → Int32) (x1 : Int32) (x2 : Int32) {z : Int32} (hs : sX9_parted f_post x1 x2 = some z) : ct l yX9_parted (.code yX9_parted cX9_parted 6 (some .int) :: gtb) rmX9_parted D cI [.ref h, .int x1, .int x2] [oX9 h a_post a_read a_now a_aside a_past f_undos a_kept f_keptMany a_sights f_sightMany a_text f_size f_at f_value a_weights a_tried f_above f_below f_paid a_row a_who a_order a_bestOrder a_costs a_taken, aI cI a_post 52 f_post] (some (.int z)) [oX9 h a_post a_read a_now a_aside a_past f_undos a_kept f_keptMany a_sights f_sightMany a_text f_size f_at f_value a_weights a_tried f_above f_below f_paid a_row a_who a_order a_bestOrder a_costs a_taken, aI cI a_post 52 f_post] := by
  refine ct_ofI (own := RX9) (by decide +kernel) rfl (Nat.le_of_ble_eq_true rfl) (fun X C hD hR => ?_)
  unfold sX9_parted at hs
  show gg cI X 6 0 0 [oX9 h a_post a_read a_now a_aside a_past f_undos a_kept f_keptMany a_sights f_sightMany a_text f_size f_at f_value a_weights a_tried f_above f_below f_paid a_row a_who a_order a_bestOrder a_costs a_taken, aI cI a_post 52 f_post] [(0, .ref h), (1, .int x1), (2, .int x2)] 0 []
  refine g_aload_n (pl := 0) C dX9_parted_0 rfl rfl ?_
  refine g_iload_n (pl := 1) C dX9_parted_1 rfl rfl ?_
  obtain ⟨z12, e_z12, hs⟩ := vb_ok hs
  refine g_callV (ws' := [oX9 h a_post a_read a_now a_aside a_past f_undos a_kept f_keptMany a_sights f_sightMany a_text f_size f_at f_value a_weights a_tried f_above f_below f_paid a_row a_who a_order a_bestOrder a_costs a_taken, aI cI a_post 52 f_post]) (rest := []) (st' := [.int z12]) C mX9_155 q5_37 [.int x1] (fun l D => cX9_isWord_ct l D cI h a_post a_read a_now a_aside a_past a_kept a_sights a_text a_weights a_tried a_row a_who a_order a_bestOrder a_costs a_taken f_undos f_keptMany f_sightMany f_size f_at f_value f_above f_below f_paid f_post x1 e_z12) ⟨⟨rfl, rfl⟩, Nat.le_of_ble_eq_true rfl, Nat.le_of_ble_eq_true rfl⟩ 0 rfl rfl rfl [0, 1] rfl rfl rfl rfl rfl (Nat.le_of_ble_eq_true rfl) (Nat.zero_le _) (Nat.zero_le _) rfl dX9_parted_2 ?_
  refine g_if_eq (tgt := 21) C dX9_parted_5 (by decide) (fun c13 => ?_) (fun c13 => ?_)
  · replace hs := vi_t hs c13
    refine g_iconst (v := (-1)) C dX9_parted_21 rfl ?_
    cases hs
    exact hR _ _ dX9_parted_22
  · replace hs := vi_f hs c13
    refine g_aload_n (pl := 0) C dX9_parted_8 rfl rfl ?_
    refine g_iload_n (pl := 2) C dX9_parted_9 rfl rfl ?_
    obtain ⟨z14, e_z14, hs⟩ := vb_ok hs
    refine g_callV (ws' := [oX9 h a_post a_read a_now a_aside a_past f_undos a_kept f_keptMany a_sights f_sightMany a_text f_size f_at f_value a_weights a_tried f_above f_below f_paid a_row a_who a_order a_bestOrder a_costs a_taken, aI cI a_post 52 f_post]) (rest := []) (st' := [.int z14]) C mX9_155 q5_37 [.int x2] (fun l D => cX9_isWord_ct l D cI h a_post a_read a_now a_aside a_past a_kept a_sights a_text a_weights a_tried a_row a_who a_order a_bestOrder a_costs a_taken f_undos f_keptMany f_sightMany f_size f_at f_value f_above f_below f_paid f_post x2 e_z14) ⟨⟨rfl, rfl⟩, Nat.le_of_ble_eq_true rfl, Nat.le_of_ble_eq_true rfl⟩ 0 rfl rfl rfl [0, 1] rfl rfl rfl rfl rfl (Nat.le_of_ble_eq_true rfl) (Nat.zero_le _) (Nat.zero_le _) rfl dX9_parted_10 ?_
    refine g_if_eq (tgt := 21) C dX9_parted_13 (by decide) (fun c15 => ?_) (fun c15 => ?_)
    · replace hs := vi_t hs c15
      refine g_iconst (v := (-1)) C dX9_parted_21 rfl ?_
      cases hs
      exact hR _ _ dX9_parted_22
    · replace hs := vi_f hs c15
      refine g_iload_n (pl := 1) C dX9_parted_16 rfl rfl ?_
      refine g_iload_n (pl := 2) C dX9_parted_17 rfl rfl ?_
      refine g_icmp_ne (tgt := 23) C dX9_parted_18 (by decide) (fun c16 => ?_) (fun c16 => ?_)
      · replace hs := vi_f hs c16
        refine g_iconst (v := (nI 0)) C dX9_parted_23 rfl ?_
        refine g_istore_n (lv' := [(3, .int (nI 0)), (0, .ref h), (1, .int x1), (2, .int x2)]) C dX9_parted_24 rfl (by decide) rfl ?_
        refine g_iconst (v := (nI 0)) C dX9_parted_25 rfl ?_
        refine g_istore (lv' := [(4, .int (nI 0)), (3, .int (nI 0)), (0, .ref h), (1, .int x1), (2, .int x2)]) C dX9_parted_26 (by decide) rfl ?_
        refine g_sub [2, 3, 4, 1, 0] rfl ?_
        exact LX9_parted_28_w C h a_post a_read a_now a_aside a_past a_kept a_sights a_text a_weights a_tried a_row a_who a_order a_bestOrder a_costs a_taken f_undos f_keptMany f_sightMany f_size f_at f_value f_above f_below f_paid f_post x1 x2 hR _ (nI 0) (nI 0) hs
      · replace hs := vi_t hs c16
        refine g_iconst (v := (-1)) C dX9_parted_21 rfl ?_
        cases hs
        exact hR _ _ dX9_parted_22
def LX9_most_4 (f_post : Nat → Int32) (f_now : Nat → Int32) : Nat → Int32 → Int32 → (Nat → Int32) → (Nat → Int32) → (Nat → Int32) → Option (Int32 × (Nat → Int32) × (Nat → Int32) × (Nat → Int32))
  | 0, _, _, _, _, _ => none
  | n + 1, y_1, y_2, f_weights, f_tried, f_row =>
    vi ((f_post (Int32.toNatClampNeg (nI 2))) ≤ y_2) inferInstance (
      some (y_1, f_weights, f_tried, f_row)) (
      vb (sX9_waits f_now y_2) fun z2 =>
      vi (z2 = 0) inferInstance (
        vlet (y_1 + (nI 0)) fun y5 =>
        vlet (y_2 + (nI 1)) fun y6 =>
        LX9_most_4 f_post f_now n y5 y6 f_weights f_tried f_row) (
        vg (vin ((nI 0) + y_2) 50) (
        vb (sX9_fewestFor f_post f_now f_weights f_tried f_row y_2 (f_now (Int32.toNatClampNeg ((nI 0) + y_2)))) fun z8 =>
        vi (z8.1 = (-4)) inferInstance (
          vlet (y_1 + (nI 0)) fun y10 =>
          vlet (y_2 + (nI 1)) fun y11 =>
          LX9_most_4 f_post f_now n y10 y11 z8.2.1 z8.2.2.1 z8.2.2.2) (
          vg (vin ((nI 10) + y_2) 50) (
          vg (vin ((nI 5) + y_2) 50) (
          vi ((f_now (Int32.toNatClampNeg ((nI 5) + y_2))) < ((f_post (Int32.toNatClampNeg (nI 6))) * ((f_now (Int32.toNatClampNeg ((nI 10) + y_2))) + z8.1))) inferInstance (
            vlet (y_1 + (nI 0)) fun y15 =>
            vlet (y_2 + (nI 1)) fun y16 =>
            LX9_most_4 f_post f_now n y15 y16 z8.2.1 z8.2.2.1 z8.2.2.2) (
            vlet (y_1 + (nI 1)) fun y17 =>
            vlet (y_2 + (nI 1)) fun y18 =>
            LX9_most_4 f_post f_now n y17 y18 z8.2.1 z8.2.2.1 z8.2.2.2)))))))
def sX9_most (f_post : Nat → Int32) (f_now : Nat → Int32) (f_weights : Nat → Int32) (f_tried : Nat → Int32) (f_row : Nat → Int32) : Option (Int32 × (Nat → Int32) × (Nat → Int32) × (Nat → Int32)) :=
  LX9_most_4 f_post f_now vF (nI 0) (nI 0) f_weights f_tried f_row
abbrev rmX9_most : Room := { frames := 6, cells := 0, slots := 0, locals := 147 }
set_option maxHeartbeats 4000000 in
set_option maxRecDepth 100000 in
theorem LX9_most_4_w {cI : ClassId} {X : xT} (C : cx cI X 4 cX9_most RX9 rmX9_most) (h : Nat) (a_post : Nat) (a_read : Nat) (a_now : Nat) (a_aside : Nat) (a_past : Nat) (a_kept : Nat) (a_sights : Nat) (a_text : Nat) (a_weights : Nat) (a_tried : Nat) (a_row : Nat) (a_who : Nat) (a_order : Nat) (a_bestOrder : Nat) (a_costs : Nat) (a_taken : Nat) (f_undos : Int32) (f_keptMany : Int32) (f_sightMany : Int32) (f_size : Int32) (f_at : Int32) (f_value : Int32) (f_above : Int64) (f_below : Int64) (f_paid : Int32) (f_post : Nat → Int32) (f_now : Nat → Int32) {z : Int32 × (Nat → Int32) × (Nat → Int32) × (Nat → Int32)} (hR : ∀ (lv : List (Nat × Value)) (pc : Nat), decode cX9_most pc = .ok (.ireturn, 1) → gg cI X 4 0 0 [oX9 h a_post a_read a_now a_aside a_past f_undos a_kept f_keptMany a_sights f_sightMany a_text f_size f_at f_value a_weights a_tried f_above f_below f_paid a_row a_who a_order a_bestOrder a_costs a_taken, aI cI a_post 52 f_post, aI cI a_now 50 f_now, aI cI a_weights 8 z.2.1, aI cI a_tried 8 z.2.2.1, aI cI a_row 3 z.2.2.2] lv pc [.int z.1]) : ∀ (n : Nat) (y_1 : Int32) (y_2 : Int32) (f_weights : Nat → Int32) (f_tried : Nat → Int32) (f_row : Nat → Int32), LX9_most_4 f_post f_now n y_1 y_2 f_weights f_tried f_row = some z → gg cI X 4 0 0 [oX9 h a_post a_read a_now a_aside a_past f_undos a_kept f_keptMany a_sights f_sightMany a_text f_size f_at f_value a_weights a_tried f_above f_below f_paid a_row a_who a_order a_bestOrder a_costs a_taken, aI cI a_post 52 f_post, aI cI a_now 50 f_now, aI cI a_weights 8 f_weights, aI cI a_tried 8 f_tried, aI cI a_row 3 f_row] [(0, .ref h), (1, .int y_1), (2, .int y_2)] 4 [] := by
  intro n
  induction n with
  | zero =>
    intro y_1 y_2 f_weights f_tried f_row hs
    exact nn_ok hs
  | succ n ih =>
    intro y_1 y_2 f_weights f_tried f_row hs
    rw [LX9_most_4] at hs
    refine g_iload_n (pl := 2) C dX9_most_4 rfl rfl ?_
    refine g_aload_n (pl := 0) C dX9_most_5 rfl rfl ?_
    refine g_get C fX9_7 0 rfl rfl dX9_most_6 ?_
    refine g_iconst (v := (nI 2)) C dX9_most_9 rfl ?_
    refine g_iald C 1 rfl (vin_ok rfl) dX9_most_10 ?_
    refine g_icmp_ge (tgt := 91) C dX9_most_11 (by decide) (fun c1 => ?_) (fun c1 => ?_)
    · replace hs := vi_t hs c1
      refine g_iload_n (pl := 1) C dX9_most_91 rfl rfl ?_
      cases hs
      exact hR _ _ dX9_most_92
    · replace hs := vi_f hs c1
      refine g_aload_n (pl := 0) C dX9_most_14 rfl rfl ?_
      refine g_iload_n (pl := 2) C dX9_most_15 rfl rfl ?_
      obtain ⟨z2, e_z2, hs⟩ := vb_ok hs
      refine g_callV (ws' := [oX9 h a_post a_read a_now a_aside a_past f_undos a_kept f_keptMany a_sights f_sightMany a_text f_size f_at f_value a_weights a_tried f_above f_below f_paid a_row a_who a_order a_bestOrder a_costs a_taken, aI cI a_post 52 f_post, aI cI a_now 50 f_now, aI cI a_weights 8 f_weights, aI cI a_tried 8 f_tried, aI cI a_row 3 f_row]) (rest := []) (st' := [.int z2]) C mX9_206 q5_109 [.int y_2] (fun l D => cX9_waits_ct l D cI h a_post a_read a_now a_aside a_past a_kept a_sights a_text a_weights a_tried a_row a_who a_order a_bestOrder a_costs a_taken f_undos f_keptMany f_sightMany f_size f_at f_value f_above f_below f_paid f_now y_2 e_z2) ⟨⟨rfl, rfl⟩, Nat.le_of_ble_eq_true rfl, Nat.le_of_ble_eq_true rfl⟩ 0 rfl rfl rfl [0, 2] rfl rfl rfl rfl rfl (Nat.le_of_ble_eq_true rfl) (Nat.zero_le _) (Nat.zero_le _) rfl dX9_most_16 ?_
      refine g_if_eq (tgt := 38) C dX9_most_19 (by decide) (fun c3 => ?_) (fun c3 => ?_)
      · replace hs := vi_t hs c3
        refine g_bipush (v := (-4)) C dX9_most_38 rfl ?_
        refine g_istore_n (lv' := [(3, .int (-4)), (0, .ref h), (1, .int y_1), (2, .int y_2)]) C dX9_most_40 rfl (by decide) rfl ?_
        refine g_iload_n (pl := 2) C dX9_most_41 rfl rfl ?_
        refine g_iload_n (pl := 0) C dX9_most_42 rfl rfl ?_
        refine g_bipush (v := (-4)) C dX9_most_43 rfl ?_
        refine g_icmp_eq (tgt := 82) C dX9_most_45 (by decide) (fun c4 => ?_) (fun c4 => ?_)
        rotate_left
        · exact absurd c4 (by decide)
        refine g_iconst (v := (nI 0)) C dX9_most_82 rfl ?_
        refine g_iadd C dX9_most_83 ?_
        obtain ⟨y5, e_y5, hs⟩ := vlet_ex hs
        refine g_topi e_y5 ?_
        refine g_istore_n (lv' := [(1, .int y5), (3, .int (-4)), (0, .ref h), (2, .int y_2)]) C dX9_most_84 rfl (by decide) rfl ?_
        obtain ⟨y6, e_y6, hs⟩ := vlet_ex hs
        refine g_iinc (pl := 3) (lv' := [(2, .int y6), (1, .int y5), (3, .int (-4)), (0, .ref h)]) C dX9_most_85 rfl e_y6.symm (by decide) rfl ?_
        refine g_goto (tgt := 4) C dX9_most_88 (by decide) ?_
        refine g_sub [3, 1, 0] rfl ?_
        exact ih y5 y6 f_weights f_tried f_row hs
      · replace hs := vi_f hs c3
        refine g_aload_n (pl := 0) C dX9_most_22 rfl rfl ?_
        refine g_iload_n (pl := 2) C dX9_most_23 rfl rfl ?_
        refine g_aload_n (pl := 0) C dX9_most_24 rfl rfl ?_
        refine g_get C fX9_16 0 rfl rfl dX9_most_25 ?_
        refine g_iconst (v := (nI 0)) C dX9_most_28 rfl ?_
        refine g_iload_n (pl := 2) C dX9_most_29 rfl rfl ?_
        refine g_iadd C dX9_most_30 ?_
        obtain ⟨b7, hs⟩ := vg_ok hs
        refine g_iald C 2 rfl (vin_ok b7) dX9_most_31 ?_
        obtain ⟨z8, e_z8, hs⟩ := vb_ok hs
        refine g_callV (ws' := [oX9 h a_post a_read a_now a_aside a_past f_undos a_kept f_keptMany a_sights f_sightMany a_text f_size f_at f_value a_weights a_tried f_above f_below f_paid a_row a_who a_order a_bestOrder a_costs a_taken, aI cI a_post 52 f_post, aI cI a_now 50 f_now, aI cI a_weights 8 z8.2.1, aI cI a_tried 8 z8.2.2.1, aI cI a_row 3 z8.2.2.2]) (rest := []) (st' := [.int z8.1]) C mX9_246 q5_163 [.int y_2, .int (f_now (Int32.toNatClampNeg ((nI 0) + y_2)))] (fun l D => cX9_fewestFor_ct l D cI h a_post a_read a_now a_aside a_past a_kept a_sights a_text a_weights a_tried a_row a_who a_order a_bestOrder a_costs a_taken f_undos f_keptMany f_sightMany f_size f_at f_value f_above f_below f_paid f_post f_now f_weights f_tried f_row y_2 (f_now (Int32.toNatClampNeg ((nI 0) + y_2))) e_z8) ⟨⟨rfl, rfl⟩, Nat.le_of_ble_eq_true rfl, Nat.le_of_ble_eq_true rfl⟩ 0 rfl rfl rfl [0, 1, 2, 3, 4, 5] rfl rfl rfl rfl rfl (Nat.le_of_ble_eq_true rfl) (Nat.zero_le _) (Nat.zero_le _) rfl dX9_most_32 ?_
        refine g_goto (tgt := 40) C dX9_most_35 (by decide) ?_
        refine g_istore_n (lv' := [(3, .int z8.1), (0, .ref h), (1, .int y_1), (2, .int y_2)]) C dX9_most_40 rfl (by decide) rfl ?_
        refine g_iload_n (pl := 2) C dX9_most_41 rfl rfl ?_
        refine g_iload_n (pl := 0) C dX9_most_42 rfl rfl ?_
        refine g_bipush (v := (-4)) C dX9_most_43 rfl ?_
        refine g_icmp_eq (tgt := 82) C dX9_most_45 (by decide) (fun c9 => ?_) (fun c9 => ?_)
        · replace hs := vi_t hs c9
          refine g_iconst (v := (nI 0)) C dX9_most_82 rfl ?_
          refine g_iadd C dX9_most_83 ?_
          obtain ⟨y10, e_y10, hs⟩ := vlet_ex hs
          refine g_topi e_y10 ?_
          refine g_istore_n (lv' := [(1, .int y10), (3, .int z8.1), (0, .ref h), (2, .int y_2)]) C dX9_most_84 rfl (by decide) rfl ?_
          obtain ⟨y11, e_y11, hs⟩ := vlet_ex hs
          refine g_iinc (pl := 3) (lv' := [(2, .int y11), (1, .int y10), (3, .int z8.1), (0, .ref h)]) C dX9_most_85 rfl e_y11.symm (by decide) rfl ?_
          refine g_goto (tgt := 4) C dX9_most_88 (by decide) ?_
          refine g_sub [3, 1, 0] rfl ?_
          exact ih y10 y11 z8.2.1 z8.2.2.1 z8.2.2.2 hs
        · replace hs := vi_f hs c9
          refine g_aload_n (pl := 1) C dX9_most_48 rfl rfl ?_
          refine g_get C fX9_7 0 rfl rfl dX9_most_49 ?_
          refine g_bipush (v := (nI 6)) C dX9_most_52 rfl ?_
          refine g_iald C 1 rfl (vin_ok rfl) dX9_most_54 ?_
          refine g_aload_n (pl := 1) C dX9_most_55 rfl rfl ?_
          refine g_get C fX9_16 0 rfl rfl dX9_most_56 ?_
          refine g_bipush (v := (nI 10)) C dX9_most_59 rfl ?_
          refine g_iload_n (pl := 3) C dX9_most_61 rfl rfl ?_
          refine g_iadd C dX9_most_62 ?_
          obtain ⟨b12, hs⟩ := vg_ok hs
          refine g_iald C 2 rfl (vin_ok b12) dX9_most_63 ?_
          refine g_iload_n (pl := 0) C dX9_most_64 rfl rfl ?_
          refine g_iadd C dX9_most_65 ?_
          refine g_imul C dX9_most_66 ?_
          refine g_aload_n (pl := 1) C dX9_most_67 rfl rfl ?_
          refine g_get C fX9_16 0 rfl rfl dX9_most_68 ?_
          refine g_iconst (v := (nI 5)) C dX9_most_71 rfl ?_
          refine g_iload_n (pl := 3) C dX9_most_72 rfl rfl ?_
          refine g_iadd C dX9_most_73 ?_
          obtain ⟨b13, hs⟩ := vg_ok hs
          refine g_iald C 2 rfl (vin_ok b13) dX9_most_74 ?_
          refine g_icmp_gt (tgt := 82) C dX9_most_75 (by decide) (fun c14 => ?_) (fun c14 => ?_)
          · replace hs := vi_t hs c14
            refine g_iconst (v := (nI 0)) C dX9_most_82 rfl ?_
            refine g_iadd C dX9_most_83 ?_
            obtain ⟨y15, e_y15, hs⟩ := vlet_ex hs
            refine g_topi e_y15 ?_
            refine g_istore_n (lv' := [(1, .int y15), (3, .int z8.1), (0, .ref h), (2, .int y_2)]) C dX9_most_84 rfl (by decide) rfl ?_
            obtain ⟨y16, e_y16, hs⟩ := vlet_ex hs
            refine g_iinc (pl := 3) (lv' := [(2, .int y16), (1, .int y15), (3, .int z8.1), (0, .ref h)]) C dX9_most_85 rfl e_y16.symm (by decide) rfl ?_
            refine g_goto (tgt := 4) C dX9_most_88 (by decide) ?_
            refine g_sub [3, 1, 0] rfl ?_
            exact ih y15 y16 z8.2.1 z8.2.2.1 z8.2.2.2 hs
          · replace hs := vi_f hs c14
            refine g_iconst (v := (nI 1)) C dX9_most_78 rfl ?_
            refine g_goto (tgt := 83) C dX9_most_79 (by decide) ?_
            refine g_iadd C dX9_most_83 ?_
            obtain ⟨y17, e_y17, hs⟩ := vlet_ex hs
            refine g_topi e_y17 ?_
            refine g_istore_n (lv' := [(1, .int y17), (3, .int z8.1), (0, .ref h), (2, .int y_2)]) C dX9_most_84 rfl (by decide) rfl ?_
            obtain ⟨y18, e_y18, hs⟩ := vlet_ex hs
            refine g_iinc (pl := 3) (lv' := [(2, .int y18), (1, .int y17), (3, .int z8.1), (0, .ref h)]) C dX9_most_85 rfl e_y18.symm (by decide) rfl ?_
            refine g_goto (tgt := 4) C dX9_most_88 (by decide) ?_
            refine g_sub [3, 1, 0] rfl ?_
            exact ih y17 y18 z8.2.1 z8.2.2.1 z8.2.2.2 hs
set_option maxHeartbeats 4000000 in
set_option maxRecDepth 100000 in
theorem cX9_most_ct (l : Launch) (D : va_G) (cI : ClassId) (h : Nat) (a_post : Nat) (a_read : Nat) (a_now : Nat) (a_aside : Nat) (a_past : Nat) (a_kept : Nat) (a_sights : Nat) (a_text : Nat) (a_weights : Nat) (a_tried : Nat) (a_row : Nat) (a_who : Nat) (a_order : Nat) (a_bestOrder : Nat) (a_costs : Nat) (a_taken : Nat) (f_undos : Int32) (f_keptMany : Int32) (f_sightMany : Int32) (f_size : Int32) (f_at : Int32) (f_value : Int32) (f_above : Int64) (f_below : Int64) (f_paid : Int32) (f_post : Nat → Int32) (f_now : Nat → Int32) (f_weights : Nat → Int32) (f_tried : Nat → Int32) (f_row : Nat → Int32) {z : Int32 × (Nat → Int32) × (Nat → Int32) × (Nat → Int32)} (hs : sX9_most f_post f_now f_weights f_tried f_row = some z) : ct l yX9_most (.code yX9_most cX9_most 4 (some .int) :: gtb) rmX9_most D cI [.ref h] [oX9 h a_post a_read a_now a_aside a_past f_undos a_kept f_keptMany a_sights f_sightMany a_text f_size f_at f_value a_weights a_tried f_above f_below f_paid a_row a_who a_order a_bestOrder a_costs a_taken, aI cI a_post 52 f_post, aI cI a_now 50 f_now, aI cI a_weights 8 f_weights, aI cI a_tried 8 f_tried, aI cI a_row 3 f_row] (some (.int z.1)) [oX9 h a_post a_read a_now a_aside a_past f_undos a_kept f_keptMany a_sights f_sightMany a_text f_size f_at f_value a_weights a_tried f_above f_below f_paid a_row a_who a_order a_bestOrder a_costs a_taken, aI cI a_post 52 f_post, aI cI a_now 50 f_now, aI cI a_weights 8 z.2.1, aI cI a_tried 8 z.2.2.1, aI cI a_row 3 z.2.2.2] := by
  refine ct_ofI (own := RX9) (by decide +kernel) rfl (Nat.le_of_ble_eq_true rfl) (fun X C hD hR => ?_)
  unfold sX9_most at hs
  show gg cI X 4 0 0 [oX9 h a_post a_read a_now a_aside a_past f_undos a_kept f_keptMany a_sights f_sightMany a_text f_size f_at f_value a_weights a_tried f_above f_below f_paid a_row a_who a_order a_bestOrder a_costs a_taken, aI cI a_post 52 f_post, aI cI a_now 50 f_now, aI cI a_weights 8 f_weights, aI cI a_tried 8 f_tried, aI cI a_row 3 f_row] [(0, .ref h)] 0 []
  refine g_iconst (v := (nI 0)) C dX9_most_0 rfl ?_
  refine g_istore_n (lv' := [(1, .int (nI 0)), (0, .ref h)]) C dX9_most_1 rfl (by decide) rfl ?_
  refine g_iconst (v := (nI 0)) C dX9_most_2 rfl ?_
  refine g_istore_n (lv' := [(2, .int (nI 0)), (1, .int (nI 0)), (0, .ref h)]) C dX9_most_3 rfl (by decide) rfl ?_
  refine g_sub [2, 1, 0] rfl ?_
  exact LX9_most_4_w C h a_post a_read a_now a_aside a_past a_kept a_sights a_text a_weights a_tried a_row a_who a_order a_bestOrder a_costs a_taken f_undos f_keptMany f_sightMany f_size f_at f_value f_above f_below f_paid f_post f_now hR _ (nI 0) (nI 0) f_weights f_tried f_row hs
def sX9_see (f_post : Nat → Int32) (f_sights : Nat → Int32) (f_sightMany : Int32) (x1 : Int32) (x2 : Int32) : Option (Int32 × (Nat → Int32) × Int32) :=
  vb (sX9_isActor f_post x1) fun z1 =>
  vi (z1 = 0) inferInstance (
    some ((-1), f_sights, f_sightMany)) (
    vb (sX9_isWord f_post x2) fun z3 =>
    vi (z3 = 0) inferInstance (
      some ((-1), f_sights, f_sightMany)) (
      vi (f_sightMany = (nI 6)) inferInstance (
        some ((-3), f_sights, f_sightMany)) (
        vg (vin ((nI 2) * f_sightMany) 12) (
        vlet (upd f_sights (Int32.toNatClampNeg ((nI 2) * f_sightMany)) x1) fun u7 =>
        vg (vin (((nI 2) * f_sightMany) + (nI 1)) 12) (
        vlet (upd u7 (Int32.toNatClampNeg (((nI 2) * f_sightMany) + (nI 1))) x2) fun u9 =>
        vlet (f_sightMany + (nI 1)) fun y10 =>
        some (y10, u9, y10))))))
abbrev rmX9_see : Room := { frames := 2, cells := 0, slots := 0, locals := 46 }
set_option maxHeartbeats 4000000 in
set_option maxRecDepth 100000 in
theorem cX9_see_ct (l : Launch) (D : va_G) (cI : ClassId) (h : Nat) (a_post : Nat) (a_read : Nat) (a_now : Nat) (a_aside : Nat) (a_past : Nat) (a_kept : Nat) (a_sights : Nat) (a_text : Nat) (a_weights : Nat) (a_tried : Nat) (a_row : Nat) (a_who : Nat) (a_order : Nat) (a_bestOrder : Nat) (a_costs : Nat) (a_taken : Nat) (f_undos : Int32) (f_keptMany : Int32) (f_sightMany : Int32) (f_size : Int32) (f_at : Int32) (f_value : Int32) (f_above : Int64) (f_below : Int64) (f_paid : Int32) (f_post : Nat → Int32) (f_sights : Nat → Int32) (x1 : Int32) (x2 : Int32) {z : Int32 × (Nat → Int32) × Int32} (hs : sX9_see f_post f_sights f_sightMany x1 x2 = some z) : ct l yX9_see (.code yX9_see cX9_see 3 (some .int) :: gtb) rmX9_see D cI [.ref h, .int x1, .int x2] [oX9 h a_post a_read a_now a_aside a_past f_undos a_kept f_keptMany a_sights f_sightMany a_text f_size f_at f_value a_weights a_tried f_above f_below f_paid a_row a_who a_order a_bestOrder a_costs a_taken, aI cI a_post 52 f_post, aI cI a_sights 12 f_sights] (some (.int z.1)) [oX9 h a_post a_read a_now a_aside a_past f_undos a_kept f_keptMany a_sights z.2.2 a_text f_size f_at f_value a_weights a_tried f_above f_below f_paid a_row a_who a_order a_bestOrder a_costs a_taken, aI cI a_post 52 f_post, aI cI a_sights 12 z.2.1] := by
  refine ct_ofI (own := RX9) (by decide +kernel) rfl (Nat.le_of_ble_eq_true rfl) (fun X C hD hR => ?_)
  unfold sX9_see at hs
  show gg cI X 3 0 0 [oX9 h a_post a_read a_now a_aside a_past f_undos a_kept f_keptMany a_sights f_sightMany a_text f_size f_at f_value a_weights a_tried f_above f_below f_paid a_row a_who a_order a_bestOrder a_costs a_taken, aI cI a_post 52 f_post, aI cI a_sights 12 f_sights] [(0, .ref h), (1, .int x1), (2, .int x2)] 0 []
  refine g_aload_n (pl := 0) C dX9_see_0 rfl rfl ?_
  refine g_iload_n (pl := 1) C dX9_see_1 rfl rfl ?_
  obtain ⟨z1, e_z1, hs⟩ := vb_ok hs
  refine g_callV (ws' := [oX9 h a_post a_read a_now a_aside a_past f_undos a_kept f_keptMany a_sights f_sightMany a_text f_size f_at f_value a_weights a_tried f_above f_below f_paid a_row a_who a_order a_bestOrder a_costs a_taken, aI cI a_post 52 f_post, aI cI a_sights 12 f_sights]) (rest := []) (st' := [.int z1]) C mX9_165 q5_61 [.int x1] (fun l D => cX9_isActor_ct l D cI h a_post a_read a_now a_aside a_past a_kept a_sights a_text a_weights a_tried a_row a_who a_order a_bestOrder a_costs a_taken f_undos f_keptMany f_sightMany f_size f_at f_value f_above f_below f_paid f_post x1 e_z1) ⟨⟨rfl, rfl⟩, Nat.le_of_ble_eq_true rfl, Nat.le_of_ble_eq_true rfl⟩ 0 rfl rfl rfl [0, 1] rfl rfl rfl rfl rfl (Nat.le_of_ble_eq_true rfl) (Nat.zero_le _) (Nat.zero_le _) rfl dX9_see_2 ?_
  refine g_if_eq (tgt := 16) C dX9_see_5 (by decide) (fun c2 => ?_) (fun c2 => ?_)
  · replace hs := vi_t hs c2
    refine g_iconst (v := (-1)) C dX9_see_16 rfl ?_
    cases hs
    exact hR _ _ dX9_see_17
  · replace hs := vi_f hs c2
    refine g_aload_n (pl := 0) C dX9_see_8 rfl rfl ?_
    refine g_iload_n (pl := 2) C dX9_see_9 rfl rfl ?_
    obtain ⟨z3, e_z3, hs⟩ := vb_ok hs
    refine g_callV (ws' := [oX9 h a_post a_read a_now a_aside a_past f_undos a_kept f_keptMany a_sights f_sightMany a_text f_size f_at f_value a_weights a_tried f_above f_below f_paid a_row a_who a_order a_bestOrder a_costs a_taken, aI cI a_post 52 f_post, aI cI a_sights 12 f_sights]) (rest := []) (st' := [.int z3]) C mX9_155 q5_37 [.int x2] (fun l D => cX9_isWord_ct l D cI h a_post a_read a_now a_aside a_past a_kept a_sights a_text a_weights a_tried a_row a_who a_order a_bestOrder a_costs a_taken f_undos f_keptMany f_sightMany f_size f_at f_value f_above f_below f_paid f_post x2 e_z3) ⟨⟨rfl, rfl⟩, Nat.le_of_ble_eq_true rfl, Nat.le_of_ble_eq_true rfl⟩ 0 rfl rfl rfl [0, 1] rfl rfl rfl rfl rfl (Nat.le_of_ble_eq_true rfl) (Nat.zero_le _) (Nat.zero_le _) rfl dX9_see_10 ?_
    refine g_if_ne (tgt := 18) C dX9_see_13 (by decide) (fun c4 => ?_) (fun c4 => ?_)
    · replace hs := vi_f hs c4
      refine g_aload_n (pl := 0) C dX9_see_18 rfl rfl ?_
      refine g_get C fX9_75 0 rfl rfl dX9_see_19 ?_
      refine g_bipush (v := (nI 6)) C dX9_see_22 rfl ?_
      refine g_icmp_ne (tgt := 30) C dX9_see_24 (by decide) (fun c5 => ?_) (fun c5 => ?_)
      · replace hs := vi_f hs c5
        refine g_aload_n (pl := 0) C dX9_see_30 rfl rfl ?_
        refine g_get C fX9_28 0 rfl rfl dX9_see_31 ?_
        refine g_iconst (v := (nI 2)) C dX9_see_34 rfl ?_
        refine g_aload_n (pl := 0) C dX9_see_35 rfl rfl ?_
        refine g_get C fX9_75 0 rfl rfl dX9_see_36 ?_
        refine g_imul C dX9_see_39 ?_
        refine g_iload_n (pl := 1) C dX9_see_40 rfl rfl ?_
        obtain ⟨b6, hs⟩ := vg_ok hs
        obtain ⟨u7, e_u7, hs⟩ := vlet_ex hs
        refine g_iast (ws' := [oX9 h a_post a_read a_now a_aside a_past f_undos a_kept f_keptMany a_sights f_sightMany a_text f_size f_at f_value a_weights a_tried f_above f_below f_paid a_row a_who a_order a_bestOrder a_costs a_taken, aI cI a_post 52 f_post, aI cI a_sights 12 u7]) C 2 rfl (vin_ok b6) (by rw [e_u7]; rfl) dX9_see_41 ?_
        refine g_aload_n (pl := 0) C dX9_see_42 rfl rfl ?_
        refine g_get C fX9_28 0 rfl rfl dX9_see_43 ?_
        refine g_iconst (v := (nI 2)) C dX9_see_46 rfl ?_
        refine g_aload_n (pl := 0) C dX9_see_47 rfl rfl ?_
        refine g_get C fX9_75 0 rfl rfl dX9_see_48 ?_
        refine g_imul C dX9_see_51 ?_
        refine g_iconst (v := (nI 1)) C dX9_see_52 rfl ?_
        refine g_iadd C dX9_see_53 ?_
        refine g_iload_n (pl := 2) C dX9_see_54 rfl rfl ?_
        obtain ⟨b8, hs⟩ := vg_ok hs
        obtain ⟨u9, e_u9, hs⟩ := vlet_ex hs
        refine g_iast (ws' := [oX9 h a_post a_read a_now a_aside a_past f_undos a_kept f_keptMany a_sights f_sightMany a_text f_size f_at f_value a_weights a_tried f_above f_below f_paid a_row a_who a_order a_bestOrder a_costs a_taken, aI cI a_post 52 f_post, aI cI a_sights 12 u9]) C 2 rfl (vin_ok b8) (by rw [e_u9]; rfl) dX9_see_55 ?_
        refine g_aload_n (pl := 0) C dX9_see_56 rfl rfl ?_
        refine g_dup C dX9_see_57 rfl ?_
        refine g_get C fX9_75 0 rfl rfl dX9_see_58 ?_
        refine g_iconst (v := (nI 1)) C dX9_see_61 rfl ?_
        refine g_iadd C dX9_see_62 ?_
        obtain ⟨y10, e_y10, hs⟩ := vlet_ex hs
        refine g_topi e_y10 ?_
        refine g_putI (ws' := [oX9 h a_post a_read a_now a_aside a_past f_undos a_kept f_keptMany a_sights y10 a_text f_size f_at f_value a_weights a_tried f_above f_below f_paid a_row a_who a_order a_bestOrder a_costs a_taken, aI cI a_post 52 f_post, aI cI a_sights 12 u9]) C fX9_75 0 rfl (Nat.le_of_ble_eq_true rfl) rfl dX9_see_63 ?_
        refine g_aload_n (pl := 0) C dX9_see_66 rfl rfl ?_
        refine g_get C fX9_75 0 rfl rfl dX9_see_67 ?_
        cases hs
        exact hR _ _ dX9_see_70
      · replace hs := vi_t hs c5
        refine g_bipush (v := (-3)) C dX9_see_27 rfl ?_
        cases hs
        exact hR _ _ dX9_see_29
    · replace hs := vi_t hs c4
      refine g_iconst (v := (-1)) C dX9_see_16 rfl ?_
      cases hs
      exact hR _ _ dX9_see_17
def sX9_forget (f_sightMany : Int32) : Option (Int32 × Int32) :=
  some (f_sightMany, (nI 0))
abbrev rmX9_forget : Room := { frames := 0, cells := 0, slots := 0, locals := 0 }
set_option maxHeartbeats 4000000 in
set_option maxRecDepth 100000 in
theorem cX9_forget_ct (l : Launch) (D : va_G) (cI : ClassId) (h : Nat) (a_post : Nat) (a_read : Nat) (a_now : Nat) (a_aside : Nat) (a_past : Nat) (a_kept : Nat) (a_sights : Nat) (a_text : Nat) (a_weights : Nat) (a_tried : Nat) (a_row : Nat) (a_who : Nat) (a_order : Nat) (a_bestOrder : Nat) (a_costs : Nat) (a_taken : Nat) (f_undos : Int32) (f_keptMany : Int32) (f_sightMany : Int32) (f_size : Int32) (f_at : Int32) (f_value : Int32) (f_above : Int64) (f_below : Int64) (f_paid : Int32) {z : Int32 × Int32} (hs : sX9_forget f_sightMany = some z) : ct l yX9_forget (.code yX9_forget cX9_forget 2 (some .int) :: gtb) rmX9_forget D cI [.ref h] [oX9 h a_post a_read a_now a_aside a_past f_undos a_kept f_keptMany a_sights f_sightMany a_text f_size f_at f_value a_weights a_tried f_above f_below f_paid a_row a_who a_order a_bestOrder a_costs a_taken] (some (.int z.1)) [oX9 h a_post a_read a_now a_aside a_past f_undos a_kept f_keptMany a_sights z.2 a_text f_size f_at f_value a_weights a_tried f_above f_below f_paid a_row a_who a_order a_bestOrder a_costs a_taken] := by
  refine ct_ofI (own := RX9) (by decide +kernel) rfl (Nat.le_of_ble_eq_true rfl) (fun X C hD hR => ?_)
  unfold sX9_forget at hs
  show gg cI X 2 0 0 [oX9 h a_post a_read a_now a_aside a_past f_undos a_kept f_keptMany a_sights f_sightMany a_text f_size f_at f_value a_weights a_tried f_above f_below f_paid a_row a_who a_order a_bestOrder a_costs a_taken] [(0, .ref h)] 0 []
  refine g_aload_n (pl := 0) C dX9_forget_0 rfl rfl ?_
  refine g_get C fX9_75 0 rfl rfl dX9_forget_1 ?_
  refine g_istore_n (lv' := [(1, .int f_sightMany), (0, .ref h)]) C dX9_forget_4 rfl (by decide) rfl ?_
  refine g_aload_n (pl := 1) C dX9_forget_5 rfl rfl ?_
  refine g_iconst (v := (nI 0)) C dX9_forget_6 rfl ?_
  refine g_putI (ws' := [oX9 h a_post a_read a_now a_aside a_past f_undos a_kept f_keptMany a_sights (nI 0) a_text f_size f_at f_value a_weights a_tried f_above f_below f_paid a_row a_who a_order a_bestOrder a_costs a_taken]) C fX9_75 0 rfl (Nat.le_of_ble_eq_true rfl) rfl dX9_forget_7 ?_
  refine g_iload_n (pl := 0) C dX9_forget_10 rfl rfl ?_
  cases hs
  exact hR _ _ dX9_forget_11
def LX9_areSo_5 (y_1 : Int32) (y_2 : Int32) (f_post : Nat → Int32) (f_now : Nat → Int32) (f_sights : Nat → Int32) (f_sightMany : Int32) : Nat → Int32 → Int32 → (Nat → Int32) → Option (Int32 × (Nat → Int32))
  | 0, _, _, _ => none
  | n + 1, y_3, y_4, f_weights =>
    vi (((nI 2) * f_sightMany) ≤ y_4) inferInstance (
      vg (vz y_3) (
      some (y_3, f_weights))) (
      vi (y_3 = 0) inferInstance (
        vg (vz y_3) (
        some (y_3, f_weights))) (
        vg (vin y_4 12) (
        vlet (f_sights (Int32.toNatClampNeg y_4)) fun y6 =>
        vg (vin ((nI 37) + y6) 52) (
        vg (vin ((nI 10) + y6) 50) (
        vg (vin ((nI 15) + y6) 50) (
        vb (sX9_weigh 50 f_post f_weights f_now (f_post (Int32.toNatClampNeg ((nI 37) + y6))) ((nI 25) + ((nI 5) * y6)) (f_now (Int32.toNatClampNeg ((nI 10) + y6))) (f_now (Int32.toNatClampNeg ((nI 15) + y6))) y_1 y_2) fun z10 =>
        vb (sX9_waits f_now y6) fun z11 =>
        vi (z11 = 0) inferInstance (
          vlet (y_4 + (nI 2)) fun y13 =>
          LX9_areSo_5 y_1 y_2 f_post f_now f_sights f_sightMany n (nI 0) y13 z10) (
          vb (sX9_greatest f_post z10) fun z14 =>
          vg (vin (y_4 + (nI 1)) 12) (
          vi (z14 = (f_sights (Int32.toNatClampNeg (y_4 + (nI 1))))) inferInstance (
            vlet (y_4 + (nI 2)) fun y18 =>
            LX9_areSo_5 y_1 y_2 f_post f_now f_sights f_sightMany n (nI 1) y18 z10) (
            vlet (y_4 + (nI 2)) fun y17 =>
            LX9_areSo_5 y_1 y_2 f_post f_now f_sights f_sightMany n (nI 0) y17 z10)))))))))
def sX9_areSo (f_post : Nat → Int32) (f_now : Nat → Int32) (f_sights : Nat → Int32) (f_sightMany : Int32) (f_weights : Nat → Int32) (x1 : Int32) (x2 : Int32) : Option (Int32 × (Nat → Int32)) :=
  LX9_areSo_5 x1 x2 f_post f_now f_sights f_sightMany vF (nI 1) (nI 0) f_weights
abbrev rmX9_areSo : Room := { frames := 4, cells := 0, slots := 0, locals := 101 }
set_option maxHeartbeats 4000000 in
set_option maxRecDepth 100000 in
theorem LX9_areSo_5_w {cI : ClassId} {X : xT} (C : cx cI X 6 cX9_areSo RX9 rmX9_areSo) (h : Nat) (a_post : Nat) (a_read : Nat) (a_now : Nat) (a_aside : Nat) (a_past : Nat) (a_kept : Nat) (a_sights : Nat) (a_text : Nat) (a_weights : Nat) (a_tried : Nat) (a_row : Nat) (a_who : Nat) (a_order : Nat) (a_bestOrder : Nat) (a_costs : Nat) (a_taken : Nat) (f_undos : Int32) (f_keptMany : Int32) (f_sightMany : Int32) (f_size : Int32) (f_at : Int32) (f_value : Int32) (f_above : Int64) (f_below : Int64) (f_paid : Int32) (f_post : Nat → Int32) (f_now : Nat → Int32) (f_sights : Nat → Int32) (y_1 : Int32) (y_2 : Int32) {z : Int32 × (Nat → Int32)} (hR : ∀ (lv : List (Nat × Value)) (pc : Nat), (z.1 = 0 ∨ z.1 = 1) → decode cX9_areSo pc = .ok (.ireturn, 1) → gg cI X 6 0 0 [oX9 h a_post a_read a_now a_aside a_past f_undos a_kept f_keptMany a_sights f_sightMany a_text f_size f_at f_value a_weights a_tried f_above f_below f_paid a_row a_who a_order a_bestOrder a_costs a_taken, aI cI a_post 52 f_post, aI cI a_now 50 f_now, aI cI a_sights 12 f_sights, aI cI a_weights 8 z.2] lv pc [.int z.1]) : ∀ (n : Nat) (y_3 : Int32) (y_4 : Int32) (f_weights : Nat → Int32), LX9_areSo_5 y_1 y_2 f_post f_now f_sights f_sightMany n y_3 y_4 f_weights = some z → gg cI X 6 0 0 [oX9 h a_post a_read a_now a_aside a_past f_undos a_kept f_keptMany a_sights f_sightMany a_text f_size f_at f_value a_weights a_tried f_above f_below f_paid a_row a_who a_order a_bestOrder a_costs a_taken, aI cI a_post 52 f_post, aI cI a_now 50 f_now, aI cI a_sights 12 f_sights, aI cI a_weights 8 f_weights] [(0, .ref h), (1, .int y_1), (2, .int y_2), (3, .int y_3), (4, .int y_4)] 5 [] := by
  intro n
  induction n with
  | zero =>
    intro y_3 y_4 f_weights hs
    exact nn_ok hs
  | succ n ih =>
    intro y_3 y_4 f_weights hs
    rw [LX9_areSo_5] at hs
    refine g_iload (pl := 4) C dX9_areSo_5 rfl ?_
    refine g_iconst (v := (nI 2)) C dX9_areSo_7 rfl ?_
    refine g_aload_n (pl := 0) C dX9_areSo_8 rfl rfl ?_
    refine g_get C fX9_75 0 rfl rfl dX9_areSo_9 ?_
    refine g_imul C dX9_areSo_12 ?_
    refine g_icmp_ge (tgt := 117) C dX9_areSo_13 (by decide) (fun c1 => ?_) (fun c1 => ?_)
    · replace hs := vi_t hs c1
      refine g_iload_n (pl := 3) C dX9_areSo_117 rfl rfl ?_
      obtain ⟨b2, hs⟩ := vg_ok hs
      cases hs
      exact hR _ _ (vz_ok b2) dX9_areSo_118
    · replace hs := vi_f hs c1
      refine g_iload_n (pl := 3) C dX9_areSo_16 rfl rfl ?_
      refine g_if_eq (tgt := 117) C dX9_areSo_17 (by decide) (fun c3 => ?_) (fun c3 => ?_)
      · replace hs := vi_t hs c3
        refine g_iload_n (pl := 3) C dX9_areSo_117 rfl rfl ?_
        obtain ⟨b4, hs⟩ := vg_ok hs
        cases hs
        exact hR _ _ (vz_ok b4) dX9_areSo_118
      · replace hs := vi_f hs c3
        refine g_aload_n (pl := 0) C dX9_areSo_20 rfl rfl ?_
        refine g_get C fX9_28 0 rfl rfl dX9_areSo_21 ?_
        refine g_iload (pl := 4) C dX9_areSo_24 rfl ?_
        obtain ⟨b5, hs⟩ := vg_ok hs
        refine g_iald C 3 rfl (vin_ok b5) dX9_areSo_26 ?_
        obtain ⟨y6, e_y6, hs⟩ := vlet_ex hs
        refine g_topi e_y6 ?_
        refine g_istore (lv' := [(5, .int y6), (0, .ref h), (1, .int y_1), (2, .int y_2), (3, .int y_3), (4, .int y_4)]) C dX9_areSo_27 (by decide) rfl ?_
        refine g_aload_n (pl := 1) C dX9_areSo_29 rfl rfl ?_
        refine g_aload_n (pl := 1) C dX9_areSo_30 rfl rfl ?_
        refine g_get C fX9_7 0 rfl rfl dX9_areSo_31 ?_
        refine g_bipush (v := (nI 37)) C dX9_areSo_34 rfl ?_
        refine g_iload (pl := 0) C dX9_areSo_36 rfl ?_
        refine g_iadd C dX9_areSo_38 ?_
        obtain ⟨b7, hs⟩ := vg_ok hs
        refine g_iald C 1 rfl (vin_ok b7) dX9_areSo_39 ?_
        refine g_aload_n (pl := 1) C dX9_areSo_40 rfl rfl ?_
        refine g_get C fX9_16 0 rfl rfl dX9_areSo_41 ?_
        refine g_bipush (v := (nI 25)) C dX9_areSo_44 rfl ?_
        refine g_iconst (v := (nI 5)) C dX9_areSo_46 rfl ?_
        refine g_iload (pl := 0) C dX9_areSo_47 rfl ?_
        refine g_imul C dX9_areSo_49 ?_
        refine g_iadd C dX9_areSo_50 ?_
        refine g_aload_n (pl := 1) C dX9_areSo_51 rfl rfl ?_
        refine g_get C fX9_16 0 rfl rfl dX9_areSo_52 ?_
        refine g_bipush (v := (nI 10)) C dX9_areSo_55 rfl ?_
        refine g_iload (pl := 0) C dX9_areSo_57 rfl ?_
        refine g_iadd C dX9_areSo_59 ?_
        obtain ⟨b8, hs⟩ := vg_ok hs
        refine g_iald C 2 rfl (vin_ok b8) dX9_areSo_60 ?_
        refine g_aload_n (pl := 1) C dX9_areSo_61 rfl rfl ?_
        refine g_get C fX9_16 0 rfl rfl dX9_areSo_62 ?_
        refine g_bipush (v := (nI 15)) C dX9_areSo_65 rfl ?_
        refine g_iload (pl := 0) C dX9_areSo_67 rfl ?_
        refine g_iadd C dX9_areSo_69 ?_
        obtain ⟨b9, hs⟩ := vg_ok hs
        refine g_iald C 2 rfl (vin_ok b9) dX9_areSo_70 ?_
        refine g_iload_n (pl := 2) C dX9_areSo_71 rfl rfl ?_
        refine g_iload_n (pl := 3) C dX9_areSo_72 rfl rfl ?_
        obtain ⟨z10, e_z10, hs⟩ := vb_ok hs
        refine g_callV (ws' := [oX9 h a_post a_read a_now a_aside a_past f_undos a_kept f_keptMany a_sights f_sightMany a_text f_size f_at f_value a_weights a_tried f_above f_below f_paid a_row a_who a_order a_bestOrder a_costs a_taken, aI cI a_post 52 f_post, aI cI a_now 50 f_now, aI cI a_sights 12 f_sights, aI cI a_weights 8 z10]) (rest := []) (st' := []) C mX9_179 q5_77 [.int (f_post (Int32.toNatClampNeg ((nI 37) + y6))), .ref a_now, .int ((nI 25) + ((nI 5) * y6)), .int (f_now (Int32.toNatClampNeg ((nI 10) + y6))), .int (f_now (Int32.toNatClampNeg ((nI 15) + y6))), .int y_1, .int y_2] (fun l D => cX9_weigh_ct l D cI h a_post a_read a_now a_aside a_past a_kept a_sights a_text a_weights a_tried a_row a_who a_order a_bestOrder a_costs a_taken a_now 50 f_undos f_keptMany f_sightMany f_size f_at f_value f_above f_below f_paid f_post f_weights f_now (f_post (Int32.toNatClampNeg ((nI 37) + y6))) ((nI 25) + ((nI 5) * y6)) (f_now (Int32.toNatClampNeg ((nI 10) + y6))) (f_now (Int32.toNatClampNeg ((nI 15) + y6))) y_1 y_2 e_z10) ⟨⟨rfl, rfl⟩, Nat.le_of_ble_eq_true rfl, Nat.le_of_ble_eq_true rfl⟩ 0 rfl rfl rfl [0, 1, 4, 2] rfl rfl rfl rfl rfl (Nat.le_of_ble_eq_true rfl) (Nat.zero_le _) (Nat.zero_le _) rfl dX9_areSo_73 ?_
        refine g_aload_n (pl := 1) C dX9_areSo_76 rfl rfl ?_
        refine g_iload (pl := 0) C dX9_areSo_77 rfl ?_
        obtain ⟨z11, e_z11, hs⟩ := vb_ok hs
        refine g_callV (ws' := [oX9 h a_post a_read a_now a_aside a_past f_undos a_kept f_keptMany a_sights f_sightMany a_text f_size f_at f_value a_weights a_tried f_above f_below f_paid a_row a_who a_order a_bestOrder a_costs a_taken, aI cI a_post 52 f_post, aI cI a_now 50 f_now, aI cI a_sights 12 f_sights, aI cI a_weights 8 z10]) (rest := []) (st' := [.int z11]) C mX9_206 q5_109 [.int y6] (fun l D => cX9_waits_ct l D cI h a_post a_read a_now a_aside a_past a_kept a_sights a_text a_weights a_tried a_row a_who a_order a_bestOrder a_costs a_taken f_undos f_keptMany f_sightMany f_size f_at f_value f_above f_below f_paid f_now y6 e_z11) ⟨⟨rfl, rfl⟩, Nat.le_of_ble_eq_true rfl, Nat.le_of_ble_eq_true rfl⟩ 0 rfl rfl rfl [0, 2] rfl rfl rfl rfl rfl (Nat.le_of_ble_eq_true rfl) (Nat.zero_le _) (Nat.zero_le _) rfl dX9_areSo_79 ?_
        refine g_if_eq (tgt := 109) C dX9_areSo_82 (by decide) (fun c12 => ?_) (fun c12 => ?_)
        · replace hs := vi_t hs c12
          refine g_iconst (v := (nI 0)) C dX9_areSo_109 rfl ?_
          refine g_istore_n (lv' := [(3, .int (nI 0)), (5, .int y6), (0, .ref h), (1, .int y_1), (2, .int y_2), (4, .int y_4)]) C dX9_areSo_110 rfl (by decide) rfl ?_
          obtain ⟨y13, e_y13, hs⟩ := vlet_ex hs
          refine g_iinc (pl := 5) (lv' := [(4, .int y13), (3, .int (nI 0)), (5, .int y6), (0, .ref h), (1, .int y_1), (2, .int y_2)]) C dX9_areSo_111 rfl e_y13.symm (by decide) rfl ?_
          refine g_goto (tgt := 5) C dX9_areSo_114 (by decide) ?_
          refine g_sub [3, 4, 5, 1, 0] rfl ?_
          exact ih (nI 0) y13 z10 hs
        · replace hs := vi_f hs c12
          refine g_aload_n (pl := 1) C dX9_areSo_85 rfl rfl ?_
          refine g_aload_n (pl := 1) C dX9_areSo_86 rfl rfl ?_
          refine g_get C fX9_34 0 rfl rfl dX9_areSo_87 ?_
          obtain ⟨z14, e_z14, hs⟩ := vb_ok hs
          refine g_callV (ws' := [oX9 h a_post a_read a_now a_aside a_past f_undos a_kept f_keptMany a_sights f_sightMany a_text f_size f_at f_value a_weights a_tried f_above f_below f_paid a_row a_who a_order a_bestOrder a_costs a_taken, aI cI a_post 52 f_post, aI cI a_now 50 f_now, aI cI a_sights 12 f_sights, aI cI a_weights 8 z10]) (rest := []) (st' := [.int z14]) C mX9_187 q5_117 [.ref a_weights] (fun l D => cX9_greatest_ct l D cI h a_post a_read a_now a_aside a_past a_kept a_sights a_text a_weights a_tried a_row a_who a_order a_bestOrder a_costs a_taken a_weights f_undos f_keptMany f_sightMany f_size f_at f_value f_above f_below f_paid f_post z10 e_z14) ⟨⟨rfl, rfl⟩, Nat.le_of_ble_eq_true rfl, Nat.le_of_ble_eq_true rfl⟩ 0 rfl rfl rfl [0, 1, 4] rfl rfl rfl rfl rfl (Nat.le_of_ble_eq_true rfl) (Nat.zero_le _) (Nat.zero_le _) rfl dX9_areSo_90 ?_
          refine g_aload_n (pl := 1) C dX9_areSo_93 rfl rfl ?_
          refine g_get C fX9_28 0 rfl rfl dX9_areSo_94 ?_
          refine g_iload (pl := 5) C dX9_areSo_97 rfl ?_
          refine g_iconst (v := (nI 1)) C dX9_areSo_99 rfl ?_
          refine g_iadd C dX9_areSo_100 ?_
          obtain ⟨b15, hs⟩ := vg_ok hs
          refine g_iald C 3 rfl (vin_ok b15) dX9_areSo_101 ?_
          refine g_icmp_ne (tgt := 109) C dX9_areSo_102 (by decide) (fun c16 => ?_) (fun c16 => ?_)
          · replace hs := vi_f hs c16
            refine g_iconst (v := (nI 0)) C dX9_areSo_109 rfl ?_
            refine g_istore_n (lv' := [(3, .int (nI 0)), (5, .int y6), (0, .ref h), (1, .int y_1), (2, .int y_2), (4, .int y_4)]) C dX9_areSo_110 rfl (by decide) rfl ?_
            obtain ⟨y17, e_y17, hs⟩ := vlet_ex hs
            refine g_iinc (pl := 5) (lv' := [(4, .int y17), (3, .int (nI 0)), (5, .int y6), (0, .ref h), (1, .int y_1), (2, .int y_2)]) C dX9_areSo_111 rfl e_y17.symm (by decide) rfl ?_
            refine g_goto (tgt := 5) C dX9_areSo_114 (by decide) ?_
            refine g_sub [3, 4, 5, 1, 0] rfl ?_
            exact ih (nI 0) y17 z10 hs
          · replace hs := vi_t hs c16
            refine g_iconst (v := (nI 1)) C dX9_areSo_105 rfl ?_
            refine g_goto (tgt := 110) C dX9_areSo_106 (by decide) ?_
            refine g_istore_n (lv' := [(3, .int (nI 1)), (5, .int y6), (0, .ref h), (1, .int y_1), (2, .int y_2), (4, .int y_4)]) C dX9_areSo_110 rfl (by decide) rfl ?_
            obtain ⟨y18, e_y18, hs⟩ := vlet_ex hs
            refine g_iinc (pl := 5) (lv' := [(4, .int y18), (3, .int (nI 1)), (5, .int y6), (0, .ref h), (1, .int y_1), (2, .int y_2)]) C dX9_areSo_111 rfl e_y18.symm (by decide) rfl ?_
            refine g_goto (tgt := 5) C dX9_areSo_114 (by decide) ?_
            refine g_sub [3, 4, 5, 1, 0] rfl ?_
            exact ih (nI 1) y18 z10 hs
set_option maxHeartbeats 4000000 in
set_option maxRecDepth 100000 in
theorem cX9_areSo_ct (l : Launch) (D : va_G) (cI : ClassId) (h : Nat) (a_post : Nat) (a_read : Nat) (a_now : Nat) (a_aside : Nat) (a_past : Nat) (a_kept : Nat) (a_sights : Nat) (a_text : Nat) (a_weights : Nat) (a_tried : Nat) (a_row : Nat) (a_who : Nat) (a_order : Nat) (a_bestOrder : Nat) (a_costs : Nat) (a_taken : Nat) (f_undos : Int32) (f_keptMany : Int32) (f_sightMany : Int32) (f_size : Int32) (f_at : Int32) (f_value : Int32) (f_above : Int64) (f_below : Int64) (f_paid : Int32) (f_post : Nat → Int32) (f_now : Nat → Int32) (f_sights : Nat → Int32) (f_weights : Nat → Int32) (x1 : Int32) (x2 : Int32) {z : Int32 × (Nat → Int32)} (hs : sX9_areSo f_post f_now f_sights f_sightMany f_weights x1 x2 = some z) : ct l yX9_areSo (.code yX9_areSo cX9_areSo 6 (some .boolean) :: gtb) rmX9_areSo D cI [.ref h, .int x1, .int x2] [oX9 h a_post a_read a_now a_aside a_past f_undos a_kept f_keptMany a_sights f_sightMany a_text f_size f_at f_value a_weights a_tried f_above f_below f_paid a_row a_who a_order a_bestOrder a_costs a_taken, aI cI a_post 52 f_post, aI cI a_now 50 f_now, aI cI a_sights 12 f_sights, aI cI a_weights 8 f_weights] (some (.int z.1)) [oX9 h a_post a_read a_now a_aside a_past f_undos a_kept f_keptMany a_sights f_sightMany a_text f_size f_at f_value a_weights a_tried f_above f_below f_paid a_row a_who a_order a_bestOrder a_costs a_taken, aI cI a_post 52 f_post, aI cI a_now 50 f_now, aI cI a_sights 12 f_sights, aI cI a_weights 8 z.2] := by
  refine ct_ofZ (own := RX9) (by decide +kernel) rfl (Nat.le_of_ble_eq_true rfl) (fun X C hD hR => ?_)
  unfold sX9_areSo at hs
  show gg cI X 6 0 0 [oX9 h a_post a_read a_now a_aside a_past f_undos a_kept f_keptMany a_sights f_sightMany a_text f_size f_at f_value a_weights a_tried f_above f_below f_paid a_row a_who a_order a_bestOrder a_costs a_taken, aI cI a_post 52 f_post, aI cI a_now 50 f_now, aI cI a_sights 12 f_sights, aI cI a_weights 8 f_weights] [(0, .ref h), (1, .int x1), (2, .int x2)] 0 []
  refine g_iconst (v := (nI 1)) C dX9_areSo_0 rfl ?_
  refine g_istore_n (lv' := [(3, .int (nI 1)), (0, .ref h), (1, .int x1), (2, .int x2)]) C dX9_areSo_1 rfl (by decide) rfl ?_
  refine g_iconst (v := (nI 0)) C dX9_areSo_2 rfl ?_
  refine g_istore (lv' := [(4, .int (nI 0)), (3, .int (nI 1)), (0, .ref h), (1, .int x1), (2, .int x2)]) C dX9_areSo_3 (by decide) rfl ?_
  refine g_sub [2, 3, 4, 1, 0] rfl ?_
  exact LX9_areSo_5_w C h a_post a_read a_now a_aside a_past a_kept a_sights a_text a_weights a_tried a_row a_who a_order a_bestOrder a_costs a_taken f_undos f_keptMany f_sightMany f_size f_at f_value f_above f_below f_paid f_post f_now f_sights x1 x2 hR _ (nI 1) (nI 0) f_weights hs
def LX9_habits_30 (y_4 : Int32) (f_post : Nat → Int32) (f_now : Nat → Int32) (f_sights : Nat → Int32) (f_sightMany : Int32) (K75 : Int32 → Int32 → (Nat → Int32) → Option (Int32 × (Nat → Int32))) : Nat → Int32 → Int32 → Int32 → (Nat → Int32) → Option (Int32 × (Nat → Int32))
  | 0, _, _, _, _ => none
  | n + 1, y_2, y_3, y_5, f_weights =>
    vi ((nI 5) ≤ y_5) inferInstance (
      K75 y_2 y_3 f_weights) (
      vb (sX9_areSo f_post f_now f_sights f_sightMany f_weights y_4 y_5) fun z2 =>
      vi (z2.1 = 0) inferInstance (
        vlet (y_5 + (nI 1)) fun y4 =>
        LX9_habits_30 y_4 f_post f_now f_sights f_sightMany K75 n y_2 y_3 y4 z2.2) (
        vlet (y_2 + (nI 1)) fun y5 =>
        vi (y_3 = (-4)) inferInstance (
          vlet (((nI 10) * y_4) + y_5) fun y8 =>
          vlet (y_5 + (nI 1)) fun y9 =>
          LX9_habits_30 y_4 f_post f_now f_sights f_sightMany K75 n y5 y8 y9 z2.2) (
          vlet (y_5 + (nI 1)) fun y7 =>
          LX9_habits_30 y_4 f_post f_now f_sights f_sightMany K75 n y5 y_3 y7 z2.2)))
def LX9_habits_20 (y_1 : Int32) (f_post : Nat → Int32) (f_now : Nat → Int32) (f_sights : Nat → Int32) (f_sightMany : Int32) : Nat → Int32 → Int32 → Int32 → (Nat → Int32) → Option (Int32 × (Nat → Int32))
  | 0, _, _, _, _ => none
  | n + 1, y_2, y_3, y_4, f_weights =>
    vi ((nI 6) ≤ y_4) inferInstance (
      vi (y_1 = 0) inferInstance (
        some (y_2, f_weights)) (
        some (y_3, f_weights))) (
      LX9_habits_30 y_4 f_post f_now f_sights f_sightMany (fun (v12 : Int32) (v13 : Int32) (v14 : Nat → Int32) =>
          vlet (y_4 + (nI 1)) fun y15 =>
          LX9_habits_20 y_1 f_post f_now f_sights f_sightMany n v12 v13 y15 v14) vF y_2 y_3 (nI 1) f_weights)
def sX9_habits (f_post : Nat → Int32) (f_now : Nat → Int32) (f_sights : Nat → Int32) (f_sightMany : Int32) (f_weights : Nat → Int32) (x1 : Int32) : Option (Int32 × (Nat → Int32)) :=
  vb (sX9_in (Int32.toInt64 x1) (lN 0) (lN 1)) fun z16 =>
  vi (z16 = 0) inferInstance (
    some ((-1), f_weights)) (
    LX9_habits_20 x1 f_post f_now f_sights f_sightMany vF (nI 0) (-4) (nI 2) f_weights)
abbrev rmX9_habits : Room := { frames := 5, cells := 0, slots := 0, locals := 126 }
set_option maxHeartbeats 4000000 in
set_option maxRecDepth 100000 in
theorem LX9_habits_30_w {cI : ClassId} {X : xT} (C : cx cI X 6 cX9_habits RX9 rmX9_habits) (h : Nat) (a_post : Nat) (a_read : Nat) (a_now : Nat) (a_aside : Nat) (a_past : Nat) (a_kept : Nat) (a_sights : Nat) (a_text : Nat) (a_weights : Nat) (a_tried : Nat) (a_row : Nat) (a_who : Nat) (a_order : Nat) (a_bestOrder : Nat) (a_costs : Nat) (a_taken : Nat) (f_undos : Int32) (f_keptMany : Int32) (f_sightMany : Int32) (f_size : Int32) (f_at : Int32) (f_value : Int32) (f_above : Int64) (f_below : Int64) (f_paid : Int32) (f_post : Nat → Int32) (f_now : Nat → Int32) (f_sights : Nat → Int32) (y_1 : Int32) (y_4 : Int32) {z : Int32 × (Nat → Int32)} (hR : ∀ (lv : List (Nat × Value)) (pc : Nat), decode cX9_habits pc = .ok (.ireturn, 1) → gg cI X 6 0 0 [oX9 h a_post a_read a_now a_aside a_past f_undos a_kept f_keptMany a_sights f_sightMany a_text f_size f_at f_value a_weights a_tried f_above f_below f_paid a_row a_who a_order a_bestOrder a_costs a_taken, aI cI a_post 52 f_post, aI cI a_now 50 f_now, aI cI a_sights 12 f_sights, aI cI a_weights 8 z.2] lv pc [.int z.1]) {K75 : Int32 → Int32 → (Nat → Int32) → Option (Int32 × (Nat → Int32))} (hK75 : ∀ (k_2 : Int32) (k_3 : Int32) (kf_weights : Nat → Int32), K75 k_2 k_3 kf_weights = some z → gg cI X 6 0 0 [oX9 h a_post a_read a_now a_aside a_past f_undos a_kept f_keptMany a_sights f_sightMany a_text f_size f_at f_value a_weights a_tried f_above f_below f_paid a_row a_who a_order a_bestOrder a_costs a_taken, aI cI a_post 52 f_post, aI cI a_now 50 f_now, aI cI a_sights 12 f_sights, aI cI a_weights 8 kf_weights] [(0, .ref h), (1, .int y_1), (2, .int k_2), (3, .int k_3), (4, .int y_4)] 75 []) : ∀ (n : Nat) (y_2 : Int32) (y_3 : Int32) (y_5 : Int32) (f_weights : Nat → Int32), LX9_habits_30 y_4 f_post f_now f_sights f_sightMany K75 n y_2 y_3 y_5 f_weights = some z → gg cI X 6 0 0 [oX9 h a_post a_read a_now a_aside a_past f_undos a_kept f_keptMany a_sights f_sightMany a_text f_size f_at f_value a_weights a_tried f_above f_below f_paid a_row a_who a_order a_bestOrder a_costs a_taken, aI cI a_post 52 f_post, aI cI a_now 50 f_now, aI cI a_sights 12 f_sights, aI cI a_weights 8 f_weights] [(0, .ref h), (1, .int y_1), (2, .int y_2), (3, .int y_3), (4, .int y_4), (5, .int y_5)] 30 [] := by
  intro n
  induction n with
  | zero =>
    intro y_2 y_3 y_5 f_weights hs
    exact nn_ok hs
  | succ n ih =>
    intro y_2 y_3 y_5 f_weights hs
    rw [LX9_habits_30] at hs
    refine g_iload (pl := 5) C dX9_habits_30 rfl ?_
    refine g_iconst (v := (nI 5)) C dX9_habits_32 rfl ?_
    refine g_icmp_ge (tgt := 75) C dX9_habits_33 (by decide) (fun c1 => ?_) (fun c1 => ?_)
    · replace hs := vi_t hs c1
      refine g_sub [0, 1, 2, 3, 4] rfl ?_
      exact hK75 y_2 y_3 f_weights hs
    · replace hs := vi_f hs c1
      refine g_aload_n (pl := 0) C dX9_habits_36 rfl rfl ?_
      refine g_iload (pl := 4) C dX9_habits_37 rfl ?_
      refine g_iload (pl := 5) C dX9_habits_39 rfl ?_
      obtain ⟨z2, e_z2, hs⟩ := vb_ok hs
      refine g_callV (ws' := [oX9 h a_post a_read a_now a_aside a_past f_undos a_kept f_keptMany a_sights f_sightMany a_text f_size f_at f_value a_weights a_tried f_above f_below f_paid a_row a_who a_order a_bestOrder a_costs a_taken, aI cI a_post 52 f_post, aI cI a_now 50 f_now, aI cI a_sights 12 f_sights, aI cI a_weights 8 z2.2]) (rest := []) (st' := [.int z2.1]) C mX9_270 q5_236 [.int y_4, .int y_5] (fun l D => cX9_areSo_ct l D cI h a_post a_read a_now a_aside a_past a_kept a_sights a_text a_weights a_tried a_row a_who a_order a_bestOrder a_costs a_taken f_undos f_keptMany f_sightMany f_size f_at f_value f_above f_below f_paid f_post f_now f_sights f_weights y_4 y_5 e_z2) ⟨⟨rfl, rfl⟩, Nat.le_of_ble_eq_true rfl, Nat.le_of_ble_eq_true rfl⟩ 0 rfl rfl rfl [0, 1, 2, 3, 4] rfl rfl rfl rfl rfl (Nat.le_of_ble_eq_true rfl) (Nat.zero_le _) (Nat.zero_le _) rfl dX9_habits_41 ?_
      refine g_if_eq (tgt := 69) C dX9_habits_44 (by decide) (fun c3 => ?_) (fun c3 => ?_)
      · replace hs := vi_t hs c3
        obtain ⟨y4, e_y4, hs⟩ := vlet_ex hs
        refine g_iinc (pl := 5) (lv' := [(5, .int y4), (0, .ref h), (1, .int y_1), (2, .int y_2), (3, .int y_3), (4, .int y_4)]) C dX9_habits_69 rfl e_y4.symm (by decide) rfl ?_
        refine g_goto (tgt := 30) C dX9_habits_72 (by decide) ?_
        refine g_sub [1, 2, 3, 4, 5, 0] rfl ?_
        exact ih y_2 y_3 y4 z2.2 hs
      · replace hs := vi_f hs c3
        obtain ⟨y5, e_y5, hs⟩ := vlet_ex hs
        refine g_iinc (pl := 2) (lv' := [(2, .int y5), (0, .ref h), (1, .int y_1), (3, .int y_3), (4, .int y_4), (5, .int y_5)]) C dX9_habits_47 rfl e_y5.symm (by decide) rfl ?_
        refine g_iload_n (pl := 3) C dX9_habits_50 rfl rfl ?_
        refine g_bipush (v := (-4)) C dX9_habits_51 rfl ?_
        refine g_icmp_ne (tgt := 67) C dX9_habits_53 (by decide) (fun c6 => ?_) (fun c6 => ?_)
        · replace hs := vi_f hs c6
          refine g_iload_n (pl := 3) C dX9_habits_67 rfl rfl ?_
          refine g_istore_n (lv' := [(3, .int y_3), (2, .int y5), (0, .ref h), (1, .int y_1), (4, .int y_4), (5, .int y_5)]) C dX9_habits_68 rfl (by decide) rfl ?_
          obtain ⟨y7, e_y7, hs⟩ := vlet_ex hs
          refine g_iinc (pl := 5) (lv' := [(5, .int y7), (3, .int y_3), (2, .int y5), (0, .ref h), (1, .int y_1), (4, .int y_4)]) C dX9_habits_69 rfl e_y7.symm (by decide) rfl ?_
          refine g_goto (tgt := 30) C dX9_habits_72 (by decide) ?_
          refine g_sub [3, 4, 2, 1, 5, 0] rfl ?_
          exact ih y5 y_3 y7 z2.2 hs
        · replace hs := vi_t hs c6
          refine g_bipush (v := (nI 10)) C dX9_habits_56 rfl ?_
          refine g_iload (pl := 4) C dX9_habits_58 rfl ?_
          refine g_imul C dX9_habits_60 ?_
          refine g_iload (pl := 5) C dX9_habits_61 rfl ?_
          refine g_iadd C dX9_habits_63 ?_
          refine g_goto (tgt := 68) C dX9_habits_64 (by decide) ?_
          obtain ⟨y8, e_y8, hs⟩ := vlet_ex hs
          refine g_topi e_y8 ?_
          refine g_istore_n (lv' := [(3, .int y8), (2, .int y5), (0, .ref h), (1, .int y_1), (4, .int y_4), (5, .int y_5)]) C dX9_habits_68 rfl (by decide) rfl ?_
          obtain ⟨y9, e_y9, hs⟩ := vlet_ex hs
          refine g_iinc (pl := 5) (lv' := [(5, .int y9), (3, .int y8), (2, .int y5), (0, .ref h), (1, .int y_1), (4, .int y_4)]) C dX9_habits_69 rfl e_y9.symm (by decide) rfl ?_
          refine g_goto (tgt := 30) C dX9_habits_72 (by decide) ?_
          refine g_sub [3, 4, 2, 1, 5, 0] rfl ?_
          exact ih y5 y8 y9 z2.2 hs
set_option maxHeartbeats 4000000 in
set_option maxRecDepth 100000 in
theorem LX9_habits_20_w {cI : ClassId} {X : xT} (C : cx cI X 6 cX9_habits RX9 rmX9_habits) (h : Nat) (a_post : Nat) (a_read : Nat) (a_now : Nat) (a_aside : Nat) (a_past : Nat) (a_kept : Nat) (a_sights : Nat) (a_text : Nat) (a_weights : Nat) (a_tried : Nat) (a_row : Nat) (a_who : Nat) (a_order : Nat) (a_bestOrder : Nat) (a_costs : Nat) (a_taken : Nat) (f_undos : Int32) (f_keptMany : Int32) (f_sightMany : Int32) (f_size : Int32) (f_at : Int32) (f_value : Int32) (f_above : Int64) (f_below : Int64) (f_paid : Int32) (f_post : Nat → Int32) (f_now : Nat → Int32) (f_sights : Nat → Int32) (y_1 : Int32) {z : Int32 × (Nat → Int32)} (hR : ∀ (lv : List (Nat × Value)) (pc : Nat), decode cX9_habits pc = .ok (.ireturn, 1) → gg cI X 6 0 0 [oX9 h a_post a_read a_now a_aside a_past f_undos a_kept f_keptMany a_sights f_sightMany a_text f_size f_at f_value a_weights a_tried f_above f_below f_paid a_row a_who a_order a_bestOrder a_costs a_taken, aI cI a_post 52 f_post, aI cI a_now 50 f_now, aI cI a_sights 12 f_sights, aI cI a_weights 8 z.2] lv pc [.int z.1]) : ∀ (n : Nat) (y_2 : Int32) (y_3 : Int32) (y_4 : Int32) (f_weights : Nat → Int32), LX9_habits_20 y_1 f_post f_now f_sights f_sightMany n y_2 y_3 y_4 f_weights = some z → gg cI X 6 0 0 [oX9 h a_post a_read a_now a_aside a_past f_undos a_kept f_keptMany a_sights f_sightMany a_text f_size f_at f_value a_weights a_tried f_above f_below f_paid a_row a_who a_order a_bestOrder a_costs a_taken, aI cI a_post 52 f_post, aI cI a_now 50 f_now, aI cI a_sights 12 f_sights, aI cI a_weights 8 f_weights] [(0, .ref h), (1, .int y_1), (2, .int y_2), (3, .int y_3), (4, .int y_4)] 20 [] := by
  intro n
  induction n with
  | zero =>
    intro y_2 y_3 y_4 f_weights hs
    exact nn_ok hs
  | succ n ih =>
    intro y_2 y_3 y_4 f_weights hs
    rw [LX9_habits_20] at hs
    refine g_iload (pl := 4) C dX9_habits_20 rfl ?_
    refine g_bipush (v := (nI 6)) C dX9_habits_22 rfl ?_
    refine g_icmp_ge (tgt := 81) C dX9_habits_24 (by decide) (fun c10 => ?_) (fun c10 => ?_)
    · replace hs := vi_t hs c10
      refine g_iload_n (pl := 1) C dX9_habits_81 rfl rfl ?_
      refine g_if_ne (tgt := 89) C dX9_habits_82 (by decide) (fun c11 => ?_) (fun c11 => ?_)
      · replace hs := vi_f hs c11
        refine g_iload_n (pl := 3) C dX9_habits_89 rfl rfl ?_
        cases hs
        exact hR _ _ dX9_habits_90
      · replace hs := vi_t hs c11
        refine g_iload_n (pl := 2) C dX9_habits_85 rfl rfl ?_
        refine g_goto (tgt := 90) C dX9_habits_86 (by decide) ?_
        cases hs
        exact hR _ _ dX9_habits_90
    · replace hs := vi_f hs c10
      refine g_iconst (v := (nI 1)) C dX9_habits_27 rfl ?_
      refine g_istore (lv' := [(5, .int (nI 1)), (0, .ref h), (1, .int y_1), (2, .int y_2), (3, .int y_3), (4, .int y_4)]) C dX9_habits_28 (by decide) rfl ?_
      refine g_sub [1, 2, 3, 4, 5, 0] rfl ?_
      refine LX9_habits_30_w C h a_post a_read a_now a_aside a_past a_kept a_sights a_text a_weights a_tried a_row a_who a_order a_bestOrder a_costs a_taken f_undos f_keptMany f_sightMany f_size f_at f_value f_above f_below f_paid f_post f_now f_sights y_1 y_4 hR ?_ _ y_2 y_3 (nI 1) f_weights hs
      · intro v12 v13 v14 hs
        obtain ⟨y15, e_y15, hs⟩ := vlet_ex hs
        refine g_iinc (pl := 4) (lv' := [(4, .int y15), (0, .ref h), (1, .int y_1), (2, .int v12), (3, .int v13)]) C dX9_habits_75 rfl e_y15.symm (by decide) rfl ?_
        refine g_goto (tgt := 20) C dX9_habits_78 (by decide) ?_
        refine g_sub [1, 2, 3, 4, 0] rfl ?_
        exact ih v12 v13 y15 v14 hs
set_option maxHeartbeats 4000000 in
set_option maxRecDepth 100000 in
theorem cX9_habits_ct (l : Launch) (D : va_G) (cI : ClassId) (h : Nat) (a_post : Nat) (a_read : Nat) (a_now : Nat) (a_aside : Nat) (a_past : Nat) (a_kept : Nat) (a_sights : Nat) (a_text : Nat) (a_weights : Nat) (a_tried : Nat) (a_row : Nat) (a_who : Nat) (a_order : Nat) (a_bestOrder : Nat) (a_costs : Nat) (a_taken : Nat) (f_undos : Int32) (f_keptMany : Int32) (f_sightMany : Int32) (f_size : Int32) (f_at : Int32) (f_value : Int32) (f_above : Int64) (f_below : Int64) (f_paid : Int32) (f_post : Nat → Int32) (f_now : Nat → Int32) (f_sights : Nat → Int32) (f_weights : Nat → Int32) (x1 : Int32) {z : Int32 × (Nat → Int32)} (hs : sX9_habits f_post f_now f_sights f_sightMany f_weights x1 = some z) : ct l yX9_habits (.code yX9_habits cX9_habits 6 (some .int) :: gtb) rmX9_habits D cI [.ref h, .int x1] [oX9 h a_post a_read a_now a_aside a_past f_undos a_kept f_keptMany a_sights f_sightMany a_text f_size f_at f_value a_weights a_tried f_above f_below f_paid a_row a_who a_order a_bestOrder a_costs a_taken, aI cI a_post 52 f_post, aI cI a_now 50 f_now, aI cI a_sights 12 f_sights, aI cI a_weights 8 f_weights] (some (.int z.1)) [oX9 h a_post a_read a_now a_aside a_past f_undos a_kept f_keptMany a_sights f_sightMany a_text f_size f_at f_value a_weights a_tried f_above f_below f_paid a_row a_who a_order a_bestOrder a_costs a_taken, aI cI a_post 52 f_post, aI cI a_now 50 f_now, aI cI a_sights 12 f_sights, aI cI a_weights 8 z.2] := by
  refine ct_ofI (own := RX9) (by decide +kernel) rfl (Nat.le_of_ble_eq_true rfl) (fun X C hD hR => ?_)
  unfold sX9_habits at hs
  show gg cI X 6 0 0 [oX9 h a_post a_read a_now a_aside a_past f_undos a_kept f_keptMany a_sights f_sightMany a_text f_size f_at f_value a_weights a_tried f_above f_below f_paid a_row a_who a_order a_bestOrder a_costs a_taken, aI cI a_post 52 f_post, aI cI a_now 50 f_now, aI cI a_sights 12 f_sights, aI cI a_weights 8 f_weights] [(0, .ref h), (1, .int x1)] 0 []
  refine g_iload_n (pl := 1) C dX9_habits_0 rfl rfl ?_
  refine g_i2l C dX9_habits_1 ?_
  refine g_lconst (v := (lN 0)) C dX9_habits_2 rfl ?_
  refine g_lconst (v := (lN 1)) C dX9_habits_3 rfl ?_
  obtain ⟨z16, e_z16, hs⟩ := vb_ok hs
  refine g_callS (ws' := [oX9 h a_post a_read a_now a_aside a_past f_undos a_kept f_keptMany a_sights f_sightMany a_text f_size f_at f_value a_weights a_tried f_above f_below f_paid a_row a_who a_order a_bestOrder a_costs a_taken, aI cI a_post 52 f_post, aI cI a_now 50 f_now, aI cI a_sights 12 f_sights, aI cI a_weights 8 f_weights]) (rest := []) (st' := [.int z16]) C mX9_82 q4_199 [.long (Int32.toInt64 x1), .long (lN 0), .long (lN 1)] (fun l D => cX9_in_ct l D cI (Int32.toInt64 x1) (lN 0) (lN 1) e_z16) ⟨⟨rfl, rfl⟩, Nat.le_of_ble_eq_true rfl, Nat.le_of_ble_eq_true rfl⟩ rfl [] rfl rfl rfl rfl rfl (Nat.le_of_ble_eq_true rfl) (Nat.zero_le _) (Nat.zero_le _) rfl dX9_habits_4 ?_
  refine g_if_ne (tgt := 12) C dX9_habits_7 (by decide) (fun c17 => ?_) (fun c17 => ?_)
  · replace hs := vi_f hs c17
    refine g_iconst (v := (nI 0)) C dX9_habits_12 rfl ?_
    refine g_istore_n (lv' := [(2, .int (nI 0)), (0, .ref h), (1, .int x1)]) C dX9_habits_13 rfl (by decide) rfl ?_
    refine g_bipush (v := (-4)) C dX9_habits_14 rfl ?_
    refine g_istore_n (lv' := [(3, .int (-4)), (2, .int (nI 0)), (0, .ref h), (1, .int x1)]) C dX9_habits_16 rfl (by decide) rfl ?_
    refine g_iconst (v := (nI 2)) C dX9_habits_17 rfl ?_
    refine g_istore (lv' := [(4, .int (nI 2)), (3, .int (-4)), (2, .int (nI 0)), (0, .ref h), (1, .int x1)]) C dX9_habits_18 (by decide) rfl ?_
    refine g_sub [3, 4, 2, 1, 0] rfl ?_
    exact LX9_habits_20_w C h a_post a_read a_now a_aside a_past a_kept a_sights a_text a_weights a_tried a_row a_who a_order a_bestOrder a_costs a_taken f_undos f_keptMany f_sightMany f_size f_at f_value f_above f_below f_paid f_post f_now f_sights x1 hR _ (nI 0) (-4) (nI 2) f_weights hs
  · replace hs := vi_t hs c17
    refine g_iconst (v := (-1)) C dX9_habits_10 rfl ?_
    cases hs
    exact hR _ _ dX9_habits_11
def LX9_wants_25 (y_1 : Int32) (f_post : Nat → Int32) (f_now : Nat → Int32) : Nat → Int32 → Int32 → (Nat → Int32) → (Nat → Int32) → (Nat → Int32) → Option (Int32 × (Nat → Int32) × (Nat → Int32) × (Nat → Int32))
  | 0, _, _, _, _, _ => none
  | n + 1, y_2, y_3, f_weights, f_tried, f_row =>
    vi ((f_post (Int32.toNatClampNeg (nI 0))) ≤ y_3) inferInstance (
      some (y_2, f_weights, f_tried, f_row)) (
      vb (sX9_fewestFor f_post f_now f_weights f_tried f_row y_1 y_3) fun z2 =>
      vi (z2.1 = (-4)) inferInstance (
        vlet (y_2 ||| (nI 0)) fun y6 =>
        vlet (y_3 + (nI 1)) fun y7 =>
        LX9_wants_25 y_1 f_post f_now n y6 y7 z2.2.1 z2.2.2.1 z2.2.2.2) (
        vlet (y_2 ||| ((nI 1) <<< (y_3 &&& 31))) fun y4 =>
        vlet (y_3 + (nI 1)) fun y5 =>
        LX9_wants_25 y_1 f_post f_now n y4 y5 z2.2.1 z2.2.2.1 z2.2.2.2))
def sX9_wants (f_post : Nat → Int32) (f_now : Nat → Int32) (f_weights : Nat → Int32) (f_tried : Nat → Int32) (f_row : Nat → Int32) (x1 : Int32) : Option (Int32 × (Nat → Int32) × (Nat → Int32) × (Nat → Int32)) :=
  vb (sX9_isActor f_post x1) fun z8 =>
  vi (z8 = 0) inferInstance (
    some ((-1), f_weights, f_tried, f_row)) (
    vb (sX9_waits f_now x1) fun z10 =>
    vi (z10 = 0) inferInstance (
      some ((-2), f_weights, f_tried, f_row)) (
      LX9_wants_25 x1 f_post f_now vF (nI 0) (nI 0) f_weights f_tried f_row))
abbrev rmX9_wants : Room := { frames := 6, cells := 0, slots := 0, locals := 147 }
set_option maxHeartbeats 4000000 in
set_option maxRecDepth 100000 in
theorem LX9_wants_25_w {cI : ClassId} {X : xT} (C : cx cI X 4 cX9_wants RX9 rmX9_wants) (h : Nat) (a_post : Nat) (a_read : Nat) (a_now : Nat) (a_aside : Nat) (a_past : Nat) (a_kept : Nat) (a_sights : Nat) (a_text : Nat) (a_weights : Nat) (a_tried : Nat) (a_row : Nat) (a_who : Nat) (a_order : Nat) (a_bestOrder : Nat) (a_costs : Nat) (a_taken : Nat) (f_undos : Int32) (f_keptMany : Int32) (f_sightMany : Int32) (f_size : Int32) (f_at : Int32) (f_value : Int32) (f_above : Int64) (f_below : Int64) (f_paid : Int32) (f_post : Nat → Int32) (f_now : Nat → Int32) (y_1 : Int32) {z : Int32 × (Nat → Int32) × (Nat → Int32) × (Nat → Int32)} (hR : ∀ (lv : List (Nat × Value)) (pc : Nat), decode cX9_wants pc = .ok (.ireturn, 1) → gg cI X 4 0 0 [oX9 h a_post a_read a_now a_aside a_past f_undos a_kept f_keptMany a_sights f_sightMany a_text f_size f_at f_value a_weights a_tried f_above f_below f_paid a_row a_who a_order a_bestOrder a_costs a_taken, aI cI a_post 52 f_post, aI cI a_now 50 f_now, aI cI a_weights 8 z.2.1, aI cI a_tried 8 z.2.2.1, aI cI a_row 3 z.2.2.2] lv pc [.int z.1]) : ∀ (n : Nat) (y_2 : Int32) (y_3 : Int32) (f_weights : Nat → Int32) (f_tried : Nat → Int32) (f_row : Nat → Int32), LX9_wants_25 y_1 f_post f_now n y_2 y_3 f_weights f_tried f_row = some z → gg cI X 4 0 0 [oX9 h a_post a_read a_now a_aside a_past f_undos a_kept f_keptMany a_sights f_sightMany a_text f_size f_at f_value a_weights a_tried f_above f_below f_paid a_row a_who a_order a_bestOrder a_costs a_taken, aI cI a_post 52 f_post, aI cI a_now 50 f_now, aI cI a_weights 8 f_weights, aI cI a_tried 8 f_tried, aI cI a_row 3 f_row] [(0, .ref h), (1, .int y_1), (2, .int y_2), (3, .int y_3)] 25 [] := by
  intro n
  induction n with
  | zero =>
    intro y_2 y_3 f_weights f_tried f_row hs
    exact nn_ok hs
  | succ n ih =>
    intro y_2 y_3 f_weights f_tried f_row hs
    rw [LX9_wants_25] at hs
    refine g_iload_n (pl := 3) C dX9_wants_25 rfl rfl ?_
    refine g_aload_n (pl := 0) C dX9_wants_26 rfl rfl ?_
    refine g_get C fX9_7 0 rfl rfl dX9_wants_27 ?_
    refine g_iconst (v := (nI 0)) C dX9_wants_30 rfl ?_
    refine g_iald C 1 rfl (vin_ok rfl) dX9_wants_31 ?_
    refine g_icmp_ge (tgt := 62) C dX9_wants_32 (by decide) (fun c1 => ?_) (fun c1 => ?_)
    · replace hs := vi_t hs c1
      refine g_iload_n (pl := 2) C dX9_wants_62 rfl rfl ?_
      cases hs
      exact hR _ _ dX9_wants_63
    · replace hs := vi_f hs c1
      refine g_iload_n (pl := 2) C dX9_wants_35 rfl rfl ?_
      refine g_aload_n (pl := 0) C dX9_wants_36 rfl rfl ?_
      refine g_iload_n (pl := 1) C dX9_wants_37 rfl rfl ?_
      refine g_iload_n (pl := 3) C dX9_wants_38 rfl rfl ?_
      obtain ⟨z2, e_z2, hs⟩ := vb_ok hs
      refine g_callV (ws' := [oX9 h a_post a_read a_now a_aside a_past f_undos a_kept f_keptMany a_sights f_sightMany a_text f_size f_at f_value a_weights a_tried f_above f_below f_paid a_row a_who a_order a_bestOrder a_costs a_taken, aI cI a_post 52 f_post, aI cI a_now 50 f_now, aI cI a_weights 8 z2.2.1, aI cI a_tried 8 z2.2.2.1, aI cI a_row 3 z2.2.2.2]) (rest := [.int y_2]) (st' := [.int z2.1, .int y_2]) C mX9_246 q5_163 [.int y_1, .int y_3] (fun l D => cX9_fewestFor_ct l D cI h a_post a_read a_now a_aside a_past a_kept a_sights a_text a_weights a_tried a_row a_who a_order a_bestOrder a_costs a_taken f_undos f_keptMany f_sightMany f_size f_at f_value f_above f_below f_paid f_post f_now f_weights f_tried f_row y_1 y_3 e_z2) ⟨⟨rfl, rfl⟩, Nat.le_of_ble_eq_true rfl, Nat.le_of_ble_eq_true rfl⟩ 0 rfl rfl rfl [0, 1, 2, 3, 4, 5] rfl rfl rfl rfl rfl (Nat.le_of_ble_eq_true rfl) (Nat.zero_le _) (Nat.zero_le _) rfl dX9_wants_39 ?_
      refine g_bipush (v := (-4)) C dX9_wants_42 rfl ?_
      refine g_icmp_ne (tgt := 51) C dX9_wants_44 (by decide) (fun c3 => ?_) (fun c3 => ?_)
      · replace hs := vi_f hs c3
        refine g_iconst (v := (nI 1)) C dX9_wants_51 rfl ?_
        refine g_iload_n (pl := 3) C dX9_wants_52 rfl rfl ?_
        refine g_ishl C dX9_wants_53 ?_
        refine g_ior C dX9_wants_54 ?_
        obtain ⟨y4, e_y4, hs⟩ := vlet_ex hs
        refine g_topi e_y4 ?_
        refine g_istore_n (lv' := [(2, .int y4), (0, .ref h), (1, .int y_1), (3, .int y_3)]) C dX9_wants_55 rfl (by decide) rfl ?_
        obtain ⟨y5, e_y5, hs⟩ := vlet_ex hs
        refine g_iinc (pl := 3) (lv' := [(3, .int y5), (2, .int y4), (0, .ref h), (1, .int y_1)]) C dX9_wants_56 rfl e_y5.symm (by decide) rfl ?_
        refine g_goto (tgt := 25) C dX9_wants_59 (by decide) ?_
        refine g_sub [2, 3, 1, 0] rfl ?_
        exact ih y4 y5 z2.2.1 z2.2.2.1 z2.2.2.2 hs
      · replace hs := vi_t hs c3
        refine g_iconst (v := (nI 0)) C dX9_wants_47 rfl ?_
        refine g_goto (tgt := 54) C dX9_wants_48 (by decide) ?_
        refine g_ior C dX9_wants_54 ?_
        obtain ⟨y6, e_y6, hs⟩ := vlet_ex hs
        refine g_topi e_y6 ?_
        refine g_istore_n (lv' := [(2, .int y6), (0, .ref h), (1, .int y_1), (3, .int y_3)]) C dX9_wants_55 rfl (by decide) rfl ?_
        obtain ⟨y7, e_y7, hs⟩ := vlet_ex hs
        refine g_iinc (pl := 3) (lv' := [(3, .int y7), (2, .int y6), (0, .ref h), (1, .int y_1)]) C dX9_wants_56 rfl e_y7.symm (by decide) rfl ?_
        refine g_goto (tgt := 25) C dX9_wants_59 (by decide) ?_
        refine g_sub [2, 3, 1, 0] rfl ?_
        exact ih y6 y7 z2.2.1 z2.2.2.1 z2.2.2.2 hs
set_option maxHeartbeats 4000000 in
set_option maxRecDepth 100000 in
theorem cX9_wants_ct (l : Launch) (D : va_G) (cI : ClassId) (h : Nat) (a_post : Nat) (a_read : Nat) (a_now : Nat) (a_aside : Nat) (a_past : Nat) (a_kept : Nat) (a_sights : Nat) (a_text : Nat) (a_weights : Nat) (a_tried : Nat) (a_row : Nat) (a_who : Nat) (a_order : Nat) (a_bestOrder : Nat) (a_costs : Nat) (a_taken : Nat) (f_undos : Int32) (f_keptMany : Int32) (f_sightMany : Int32) (f_size : Int32) (f_at : Int32) (f_value : Int32) (f_above : Int64) (f_below : Int64) (f_paid : Int32) (f_post : Nat → Int32) (f_now : Nat → Int32) (f_weights : Nat → Int32) (f_tried : Nat → Int32) (f_row : Nat → Int32) (x1 : Int32) {z : Int32 × (Nat → Int32) × (Nat → Int32) × (Nat → Int32)} (hs : sX9_wants f_post f_now f_weights f_tried f_row x1 = some z) : ct l yX9_wants (.code yX9_wants cX9_wants 4 (some .int) :: gtb) rmX9_wants D cI [.ref h, .int x1] [oX9 h a_post a_read a_now a_aside a_past f_undos a_kept f_keptMany a_sights f_sightMany a_text f_size f_at f_value a_weights a_tried f_above f_below f_paid a_row a_who a_order a_bestOrder a_costs a_taken, aI cI a_post 52 f_post, aI cI a_now 50 f_now, aI cI a_weights 8 f_weights, aI cI a_tried 8 f_tried, aI cI a_row 3 f_row] (some (.int z.1)) [oX9 h a_post a_read a_now a_aside a_past f_undos a_kept f_keptMany a_sights f_sightMany a_text f_size f_at f_value a_weights a_tried f_above f_below f_paid a_row a_who a_order a_bestOrder a_costs a_taken, aI cI a_post 52 f_post, aI cI a_now 50 f_now, aI cI a_weights 8 z.2.1, aI cI a_tried 8 z.2.2.1, aI cI a_row 3 z.2.2.2] := by
  refine ct_ofI (own := RX9) (by decide +kernel) rfl (Nat.le_of_ble_eq_true rfl) (fun X C hD hR => ?_)
  unfold sX9_wants at hs
  show gg cI X 4 0 0 [oX9 h a_post a_read a_now a_aside a_past f_undos a_kept f_keptMany a_sights f_sightMany a_text f_size f_at f_value a_weights a_tried f_above f_below f_paid a_row a_who a_order a_bestOrder a_costs a_taken, aI cI a_post 52 f_post, aI cI a_now 50 f_now, aI cI a_weights 8 f_weights, aI cI a_tried 8 f_tried, aI cI a_row 3 f_row] [(0, .ref h), (1, .int x1)] 0 []
  refine g_aload_n (pl := 0) C dX9_wants_0 rfl rfl ?_
  refine g_iload_n (pl := 1) C dX9_wants_1 rfl rfl ?_
  obtain ⟨z8, e_z8, hs⟩ := vb_ok hs
  refine g_callV (ws' := [oX9 h a_post a_read a_now a_aside a_past f_undos a_kept f_keptMany a_sights f_sightMany a_text f_size f_at f_value a_weights a_tried f_above f_below f_paid a_row a_who a_order a_bestOrder a_costs a_taken, aI cI a_post 52 f_post, aI cI a_now 50 f_now, aI cI a_weights 8 f_weights, aI cI a_tried 8 f_tried, aI cI a_row 3 f_row]) (rest := []) (st' := [.int z8]) C mX9_165 q5_61 [.int x1] (fun l D => cX9_isActor_ct l D cI h a_post a_read a_now a_aside a_past a_kept a_sights a_text a_weights a_tried a_row a_who a_order a_bestOrder a_costs a_taken f_undos f_keptMany f_sightMany f_size f_at f_value f_above f_below f_paid f_post x1 e_z8) ⟨⟨rfl, rfl⟩, Nat.le_of_ble_eq_true rfl, Nat.le_of_ble_eq_true rfl⟩ 0 rfl rfl rfl [0, 1] rfl rfl rfl rfl rfl (Nat.le_of_ble_eq_true rfl) (Nat.zero_le _) (Nat.zero_le _) rfl dX9_wants_2 ?_
  refine g_if_ne (tgt := 10) C dX9_wants_5 (by decide) (fun c9 => ?_) (fun c9 => ?_)
  · replace hs := vi_f hs c9
    refine g_aload_n (pl := 0) C dX9_wants_10 rfl rfl ?_
    refine g_iload_n (pl := 1) C dX9_wants_11 rfl rfl ?_
    obtain ⟨z10, e_z10, hs⟩ := vb_ok hs
    refine g_callV (ws' := [oX9 h a_post a_read a_now a_aside a_past f_undos a_kept f_keptMany a_sights f_sightMany a_text f_size f_at f_value a_weights a_tried f_above f_below f_paid a_row a_who a_order a_bestOrder a_costs a_taken, aI cI a_post 52 f_post, aI cI a_now 50 f_now, aI cI a_weights 8 f_weights, aI cI a_tried 8 f_tried, aI cI a_row 3 f_row]) (rest := []) (st' := [.int z10]) C mX9_206 q5_109 [.int x1] (fun l D => cX9_waits_ct l D cI h a_post a_read a_now a_aside a_past a_kept a_sights a_text a_weights a_tried a_row a_who a_order a_bestOrder a_costs a_taken f_undos f_keptMany f_sightMany f_size f_at f_value f_above f_below f_paid f_now x1 e_z10) ⟨⟨rfl, rfl⟩, Nat.le_of_ble_eq_true rfl, Nat.le_of_ble_eq_true rfl⟩ 0 rfl rfl rfl [0, 2] rfl rfl rfl rfl rfl (Nat.le_of_ble_eq_true rfl) (Nat.zero_le _) (Nat.zero_le _) rfl dX9_wants_12 ?_
    refine g_if_ne (tgt := 21) C dX9_wants_15 (by decide) (fun c11 => ?_) (fun c11 => ?_)
    · replace hs := vi_f hs c11
      refine g_iconst (v := (nI 0)) C dX9_wants_21 rfl ?_
      refine g_istore_n (lv' := [(2, .int (nI 0)), (0, .ref h), (1, .int x1)]) C dX9_wants_22 rfl (by decide) rfl ?_
      refine g_iconst (v := (nI 0)) C dX9_wants_23 rfl ?_
      refine g_istore_n (lv' := [(3, .int (nI 0)), (2, .int (nI 0)), (0, .ref h), (1, .int x1)]) C dX9_wants_24 rfl (by decide) rfl ?_
      refine g_sub [2, 3, 1, 0] rfl ?_
      exact LX9_wants_25_w C h a_post a_read a_now a_aside a_past a_kept a_sights a_text a_weights a_tried a_row a_who a_order a_bestOrder a_costs a_taken f_undos f_keptMany f_sightMany f_size f_at f_value f_above f_below f_paid f_post f_now x1 hR _ (nI 0) (nI 0) f_weights f_tried f_row hs
    · replace hs := vi_t hs c11
      refine g_bipush (v := (-2)) C dX9_wants_18 rfl ?_
      cases hs
      exact hR _ _ dX9_wants_20
  · replace hs := vi_t hs c9
    refine g_iconst (v := (-1)) C dX9_wants_8 rfl ?_
    cases hs
    exact hR _ _ dX9_wants_9
def LX9_missed_105 (y_1 : Int32) (y_2 : Int32) (y_4 : Int32) (y_9 : Int32) (f_now : Nat → Int32) (K177 : Int64 → Int32 → (Nat → Int32) → Option (Int32 × (Nat → Int32) × Int64 × Int64 × (Nat → Int32))) : Nat → Int64 → Int32 → Int32 → (Nat → Int32) → Option (Int32 × (Nat → Int32) × Int64 × Int64 × (Nat → Int32))
  | 0, _, _, _, _ => none
  | n + 1, y_10, y_12, y_13, f_taken =>
    vi (y_4 ≤ y_13) inferInstance (
      K177 y_10 y_12 f_taken) (
      vb (sX9_has y_9 y_13) fun z2 =>
      vi (z2 = 0) inferInstance (
        vlet (y_10 * (Int32.toInt64 y_2)) fun y4 =>
        vb (sX9_has y_9 y_13) fun z5 =>
        vi (z5 = 0) inferInstance (
          vlet (y_13 + (nI 1)) fun y7 =>
          LX9_missed_105 y_1 y_2 y_4 y_9 f_now K177 n y4 y_12 y7 f_taken) (
          vg (vin (((nI 25) + ((nI 5) * y_1)) + y_13) 50) (
          vlet (f_now (Int32.toNatClampNeg (((nI 25) + ((nI 5) * y_1)) + y_13))) fun y9 =>
          vg (vin y_12 5) (
          vlet (upd f_taken (Int32.toNatClampNeg y_12) y9) fun u11 =>
          vlet (y_12 + (nI 1)) fun y12 =>
          vlet (y_13 + (nI 1)) fun y13 =>
          LX9_missed_105 y_1 y_2 y_4 y_9 f_now K177 n y4 y12 y13 u11)))) (
        vlet (y_10 * (Int32.toInt64 ((nI 10) - y_2))) fun y14 =>
        vb (sX9_has y_9 y_13) fun z15 =>
        vi (z15 = 0) inferInstance (
          vlet (y_13 + (nI 1)) fun y17 =>
          LX9_missed_105 y_1 y_2 y_4 y_9 f_now K177 n y14 y_12 y17 f_taken) (
          vg (vin (((nI 25) + ((nI 5) * y_1)) + y_13) 50) (
          vlet (f_now (Int32.toNatClampNeg (((nI 25) + ((nI 5) * y_1)) + y_13))) fun y19 =>
          vg (vin y_12 5) (
          vlet (upd f_taken (Int32.toNatClampNeg y_12) y19) fun u21 =>
          vlet (y_12 + (nI 1)) fun y22 =>
          vlet (y_13 + (nI 1)) fun y23 =>
          LX9_missed_105 y_1 y_2 y_4 y_9 f_now K177 n y14 y22 y23 u21)))))
def LX9_missed_87 (y_1 : Int32) (y_2 : Int32) (y_3 : Int32) (y_4 : Int32) (y_7 : Int64) (f_post : Nat → Int32) (f_now : Nat → Int32) (f_above : Int64) (f_below : Int64) : Nat → Int64 → Int32 → (Nat → Int32) → (Nat → Int32) → Option (Int32 × (Nat → Int32) × Int64 × Int64 × (Nat → Int32))
  | 0, _, _, _, _ => none
  | n + 1, y_5, y_9, f_weights, f_taken =>
    vi (((nI 1) <<< (y_4 &&& 31)) ≤ y_9) inferInstance (
      vb (sX9_lowest f_above f_below y_5 y_7) fun z25 =>
      vi (y_3 = 0) inferInstance (
        some (Int64.toInt32 z25.1, f_weights, z25.1, z25.2, f_taken)) (
        some (Int64.toInt32 z25.2, f_weights, z25.1, z25.2, f_taken))) (
      LX9_missed_105 y_1 y_2 y_4 y_9 f_now (fun (v27 : Int64) (v28 : Int32) (v29 : Nat → Int32) =>
          vg (vin ((nI 37) + y_1) 52) (
          vg (vin ((nI 15) + y_1) 50) (
          vb (sX9_weigh 5 f_post f_weights v29 (f_post (Int32.toNatClampNeg ((nI 37) + y_1))) (nI 0) v28 (f_now (Int32.toNatClampNeg ((nI 15) + y_1))) (f_post (Int32.toNatClampNeg (nI 4))) (f_post (Int32.toNatClampNeg (nI 5)))) fun z32 =>
          vb (sX9_greatest f_post z32) fun z33 =>
          vg (vin ((nI 0) + y_1) 50) (
          vi (z33 = (f_now (Int32.toNatClampNeg ((nI 0) + y_1)))) inferInstance (
            vlet (y_5 + v27) fun y38 =>
            vlet (y_9 + (nI 1)) fun y39 =>
            LX9_missed_87 y_1 y_2 y_3 y_4 y_7 f_post f_now f_above f_below n y38 y39 z32 v29) (
            vlet (y_5 + (lN 0)) fun y36 =>
            vlet (y_9 + (nI 1)) fun y37 =>
            LX9_missed_87 y_1 y_2 y_3 y_4 y_7 f_post f_now f_above f_below n y36 y37 z32 v29))))) vF (lN 1) (nI 0) (nI 0) f_taken)
def LX9_missed_63 (y_1 : Int32) (y_2 : Int32) (y_3 : Int32) (y_4 : Int32) (y_5 : Int64) (f_post : Nat → Int32) (f_now : Nat → Int32) (f_weights : Nat → Int32) (f_above : Int64) (f_below : Int64) (f_taken : Nat → Int32) : Nat → Int64 → Int32 → Option (Int32 × (Nat → Int32) × Int64 × Int64 × (Nat → Int32))
  | 0, _, _ => none
  | n + 1, y_7, y_9 =>
    vi (y_4 ≤ y_9) inferInstance (
      LX9_missed_87 y_1 y_2 y_3 y_4 y_7 f_post f_now f_above f_below vF y_5 (nI 0) f_weights f_taken) (
      vlet (y_7 * (lN 10)) fun y41 =>
      vlet (y_9 + (nI 1)) fun y42 =>
      LX9_missed_63 y_1 y_2 y_3 y_4 y_5 f_post f_now f_weights f_above f_below f_taken n y41 y42)
def sX9_missed (f_post : Nat → Int32) (f_now : Nat → Int32) (f_weights : Nat → Int32) (f_above : Int64) (f_below : Int64) (f_taken : Nat → Int32) (x1 : Int32) (x2 : Int32) (x3 : Int32) : Option (Int32 × (Nat → Int32) × Int64 × Int64 × (Nat → Int32)) :=
  vb (sX9_isActor f_post x1) fun z43 =>
  vi (z43 = 0) inferInstance (
    some ((-1), f_weights, f_above, f_below, f_taken)) (
    vb (sX9_in (Int32.toInt64 x2) (lN 0) (lN 10)) fun z45 =>
    vi (z45 = 0) inferInstance (
      some ((-1), f_weights, f_above, f_below, f_taken)) (
      vb (sX9_in (Int32.toInt64 x3) (lN 0) (lN 1)) fun z47 =>
      vi (z47 = 0) inferInstance (
        some ((-1), f_weights, f_above, f_below, f_taken)) (
        vb (sX9_waits f_now x1) fun z49 =>
        vi (z49 = 0) inferInstance (
          some ((-2), f_weights, f_above, f_below, f_taken)) (
          vg (vin ((nI 10) + x1) 50) (
          vlet (f_now (Int32.toNatClampNeg ((nI 10) + x1))) fun y52 =>
          LX9_missed_63 x1 x2 x3 y52 (lN 0) f_post f_now f_weights f_above f_below f_taken vF (lN 1) (nI 0))))))
abbrev rmX9_missed : Room := { frames := 4, cells := 0, slots := 0, locals := 101 }
set_option maxHeartbeats 4000000 in
set_option maxRecDepth 100000 in
theorem LX9_missed_105_w {cI : ClassId} {X : xT} (C : cx cI X 14 cX9_missed RX9 rmX9_missed) (h : Nat) (a_post : Nat) (a_read : Nat) (a_now : Nat) (a_aside : Nat) (a_past : Nat) (a_kept : Nat) (a_sights : Nat) (a_text : Nat) (a_weights : Nat) (a_tried : Nat) (a_row : Nat) (a_who : Nat) (a_order : Nat) (a_bestOrder : Nat) (a_costs : Nat) (a_taken : Nat) (f_undos : Int32) (f_keptMany : Int32) (f_sightMany : Int32) (f_size : Int32) (f_at : Int32) (f_value : Int32) (f_above : Int64) (f_below : Int64) (f_paid : Int32) (f_post : Nat → Int32) (f_now : Nat → Int32) (f_weights : Nat → Int32) (y_1 : Int32) (y_2 : Int32) (y_3 : Int32) (y_4 : Int32) (y_5 : Int64) (y_7 : Int64) (y_9 : Int32) {z : Int32 × (Nat → Int32) × Int64 × Int64 × (Nat → Int32)} (hR : ∀ (lv : List (Nat × Value)) (pc : Nat), decode cX9_missed pc = .ok (.ireturn, 1) → gg cI X 14 0 0 [oX9 h a_post a_read a_now a_aside a_past f_undos a_kept f_keptMany a_sights f_sightMany a_text f_size f_at f_value a_weights a_tried z.2.2.1 z.2.2.2.1 f_paid a_row a_who a_order a_bestOrder a_costs a_taken, aI cI a_post 52 f_post, aI cI a_now 50 f_now, aI cI a_weights 8 z.2.1, aI cI a_taken 5 z.2.2.2.2] lv pc [.int z.1]) {K177 : Int64 → Int32 → (Nat → Int32) → Option (Int32 × (Nat → Int32) × Int64 × Int64 × (Nat → Int32))} (hK177 : ∀ (k_10 : Int64) (k_12 : Int32) (kf_taken : Nat → Int32), K177 k_10 k_12 kf_taken = some z → gg cI X 14 0 0 [oX9 h a_post a_read a_now a_aside a_past f_undos a_kept f_keptMany a_sights f_sightMany a_text f_size f_at f_value a_weights a_tried f_above f_below f_paid a_row a_who a_order a_bestOrder a_costs a_taken, aI cI a_post 52 f_post, aI cI a_now 50 f_now, aI cI a_weights 8 f_weights, aI cI a_taken 5 kf_taken] [(0, .ref h), (1, .int y_1), (2, .int y_2), (3, .int y_3), (4, .int y_4), (5, .long y_5), (7, .long y_7), (9, .int y_9), (10, .long k_10), (12, .int k_12)] 177 []) : ∀ (n : Nat) (y_10 : Int64) (y_12 : Int32) (y_13 : Int32) (f_taken : Nat → Int32), LX9_missed_105 y_1 y_2 y_4 y_9 f_now K177 n y_10 y_12 y_13 f_taken = some z → gg cI X 14 0 0 [oX9 h a_post a_read a_now a_aside a_past f_undos a_kept f_keptMany a_sights f_sightMany a_text f_size f_at f_value a_weights a_tried f_above f_below f_paid a_row a_who a_order a_bestOrder a_costs a_taken, aI cI a_post 52 f_post, aI cI a_now 50 f_now, aI cI a_weights 8 f_weights, aI cI a_taken 5 f_taken] [(0, .ref h), (1, .int y_1), (2, .int y_2), (3, .int y_3), (4, .int y_4), (5, .long y_5), (7, .long y_7), (9, .int y_9), (10, .long y_10), (12, .int y_12), (13, .int y_13)] 105 [] := by
  intro n
  induction n with
  | zero =>
    intro y_10 y_12 y_13 f_taken hs
    exact nn_ok hs
  | succ n ih =>
    intro y_10 y_12 y_13 f_taken hs
    rw [LX9_missed_105] at hs
    refine g_iload (pl := 10) C dX9_missed_105 rfl ?_
    refine g_iload (pl := 4) C dX9_missed_107 rfl ?_
    refine g_icmp_ge (tgt := 177) C dX9_missed_109 (by decide) (fun c1 => ?_) (fun c1 => ?_)
    · replace hs := vi_t hs c1
      refine g_sub [0, 1, 2, 3, 4, 5, 6, 7, 8, 9] rfl ?_
      exact hK177 y_10 y_12 f_taken hs
    · replace hs := vi_f hs c1
      refine g_lload (pl := 8) C dX9_missed_112 rfl ?_
      refine g_iload (pl := 7) C dX9_missed_114 rfl ?_
      refine g_iload (pl := 10) C dX9_missed_116 rfl ?_
      obtain ⟨z2, e_z2, hs⟩ := vb_ok hs
      refine g_callS (ws' := [oX9 h a_post a_read a_now a_aside a_past f_undos a_kept f_keptMany a_sights f_sightMany a_text f_size f_at f_value a_weights a_tried f_above f_below f_paid a_row a_who a_order a_bestOrder a_costs a_taken, aI cI a_post 52 f_post, aI cI a_now 50 f_now, aI cI a_weights 8 f_weights, aI cI a_taken 5 f_taken]) (rest := [.long y_10]) (st' := [.int z2, .long y_10]) C mX9_120 q5_6 [.int y_9, .int y_13] (fun l D => cX9_has_ct l D cI y_9 y_13 e_z2) ⟨⟨rfl, rfl⟩, Nat.le_of_ble_eq_true rfl, Nat.le_of_ble_eq_true rfl⟩ rfl [] rfl rfl rfl rfl rfl (Nat.le_of_ble_eq_true rfl) (Nat.zero_le _) (Nat.zero_le _) rfl dX9_missed_118 ?_
      refine g_if_eq (tgt := 132) C dX9_missed_121 (by decide) (fun c3 => ?_) (fun c3 => ?_)
      · replace hs := vi_t hs c3
        refine g_iload_n (pl := 2) C dX9_missed_132 rfl rfl ?_
        refine g_i2l C dX9_missed_133 ?_
        refine g_lmul C dX9_missed_134 ?_
        obtain ⟨y4, e_y4, hs⟩ := vlet_ex hs
        refine g_topl e_y4 ?_
        refine g_lstore (lv' := [(10, .long y4), (0, .ref h), (1, .int y_1), (2, .int y_2), (3, .int y_3), (4, .int y_4), (5, .long y_5), (7, .long y_7), (9, .int y_9), (12, .int y_12), (13, .int y_13)]) C dX9_missed_135 (by decide) rfl ?_
        refine g_iload (pl := 8) C dX9_missed_137 rfl ?_
        refine g_iload (pl := 10) C dX9_missed_139 rfl ?_
        obtain ⟨z5, e_z5, hs⟩ := vb_ok hs
        refine g_callS (ws' := [oX9 h a_post a_read a_now a_aside a_past f_undos a_kept f_keptMany a_sights f_sightMany a_text f_size f_at f_value a_weights a_tried f_above f_below f_paid a_row a_who a_order a_bestOrder a_costs a_taken, aI cI a_post 52 f_post, aI cI a_now 50 f_now, aI cI a_weights 8 f_weights, aI cI a_taken 5 f_taken]) (rest := []) (st' := [.int z5]) C mX9_120 q5_6 [.int y_9, .int y_13] (fun l D => cX9_has_ct l D cI y_9 y_13 e_z5) ⟨⟨rfl, rfl⟩, Nat.le_of_ble_eq_true rfl, Nat.le_of_ble_eq_true rfl⟩ rfl [] rfl rfl rfl rfl rfl (Nat.le_of_ble_eq_true rfl) (Nat.zero_le _) (Nat.zero_le _) rfl dX9_missed_141 ?_
        refine g_if_eq (tgt := 171) C dX9_missed_144 (by decide) (fun c6 => ?_) (fun c6 => ?_)
        · replace hs := vi_t hs c6
          obtain ⟨y7, e_y7, hs⟩ := vlet_ex hs
          refine g_iinc (pl := 10) (lv' := [(13, .int y7), (10, .long y4), (0, .ref h), (1, .int y_1), (2, .int y_2), (3, .int y_3), (4, .int y_4), (5, .long y_5), (7, .long y_7), (9, .int y_9), (12, .int y_12)]) C dX9_missed_171 rfl e_y7.symm (by decide) rfl ?_
          refine g_goto (tgt := 105) C dX9_missed_174 (by decide) ?_
          refine g_sub [2, 3, 4, 5, 6, 7, 8, 9, 1, 10, 0] rfl ?_
          exact ih y4 y_12 y7 f_taken hs
        · replace hs := vi_f hs c6
          refine g_aload_n (pl := 1) C dX9_missed_147 rfl rfl ?_
          refine g_get C fX9_55 0 rfl rfl dX9_missed_148 ?_
          refine g_iload (pl := 9) C dX9_missed_151 rfl ?_
          refine g_aload_n (pl := 1) C dX9_missed_153 rfl rfl ?_
          refine g_get C fX9_16 0 rfl rfl dX9_missed_154 ?_
          refine g_bipush (v := (nI 25)) C dX9_missed_157 rfl ?_
          refine g_iconst (v := (nI 5)) C dX9_missed_159 rfl ?_
          refine g_iload_n (pl := 2) C dX9_missed_160 rfl rfl ?_
          refine g_imul C dX9_missed_161 ?_
          refine g_iadd C dX9_missed_162 ?_
          refine g_iload (pl := 10) C dX9_missed_163 rfl ?_
          refine g_iadd C dX9_missed_165 ?_
          obtain ⟨b8, hs⟩ := vg_ok hs
          refine g_iald C 2 rfl (vin_ok b8) dX9_missed_166 ?_
          obtain ⟨y9, e_y9, hs⟩ := vlet_ex hs
          refine g_topi e_y9 ?_
          obtain ⟨b10, hs⟩ := vg_ok hs
          obtain ⟨u11, e_u11, hs⟩ := vlet_ex hs
          refine g_iast (ws' := [oX9 h a_post a_read a_now a_aside a_past f_undos a_kept f_keptMany a_sights f_sightMany a_text f_size f_at f_value a_weights a_tried f_above f_below f_paid a_row a_who a_order a_bestOrder a_costs a_taken, aI cI a_post 52 f_post, aI cI a_now 50 f_now, aI cI a_weights 8 f_weights, aI cI a_taken 5 u11]) C 4 rfl (vin_ok b10) (by rw [e_u11]; rfl) dX9_missed_167 ?_
          obtain ⟨y12, e_y12, hs⟩ := vlet_ex hs
          refine g_iinc (pl := 9) (lv' := [(12, .int y12), (10, .long y4), (0, .ref h), (1, .int y_1), (2, .int y_2), (3, .int y_3), (4, .int y_4), (5, .long y_5), (7, .long y_7), (9, .int y_9), (13, .int y_13)]) C dX9_missed_168 rfl e_y12.symm (by decide) rfl ?_
          obtain ⟨y13, e_y13, hs⟩ := vlet_ex hs
          refine g_iinc (pl := 10) (lv' := [(13, .int y13), (12, .int y12), (10, .long y4), (0, .ref h), (1, .int y_1), (2, .int y_2), (3, .int y_3), (4, .int y_4), (5, .long y_5), (7, .long y_7), (9, .int y_9)]) C dX9_missed_171 rfl e_y13.symm (by decide) rfl ?_
          refine g_goto (tgt := 105) C dX9_missed_174 (by decide) ?_
          refine g_sub [3, 4, 5, 6, 7, 8, 9, 10, 2, 1, 0] rfl ?_
          exact ih y4 y12 y13 u11 hs
      · replace hs := vi_f hs c3
        refine g_bipush (v := (nI 10)) C dX9_missed_124 rfl ?_
        refine g_iload_n (pl := 2) C dX9_missed_126 rfl rfl ?_
        refine g_isub C dX9_missed_127 ?_
        refine g_i2l C dX9_missed_128 ?_
        refine g_goto (tgt := 134) C dX9_missed_129 (by decide) ?_
        refine g_lmul C dX9_missed_134 ?_
        obtain ⟨y14, e_y14, hs⟩ := vlet_ex hs
        refine g_topl e_y14 ?_
        refine g_lstore (lv' := [(10, .long y14), (0, .ref h), (1, .int y_1), (2, .int y_2), (3, .int y_3), (4, .int y_4), (5, .long y_5), (7, .long y_7), (9, .int y_9), (12, .int y_12), (13, .int y_13)]) C dX9_missed_135 (by decide) rfl ?_
        refine g_iload (pl := 8) C dX9_missed_137 rfl ?_
        refine g_iload (pl := 10) C dX9_missed_139 rfl ?_
        obtain ⟨z15, e_z15, hs⟩ := vb_ok hs
        refine g_callS (ws' := [oX9 h a_post a_read a_now a_aside a_past f_undos a_kept f_keptMany a_sights f_sightMany a_text f_size f_at f_value a_weights a_tried f_above f_below f_paid a_row a_who a_order a_bestOrder a_costs a_taken, aI cI a_post 52 f_post, aI cI a_now 50 f_now, aI cI a_weights 8 f_weights, aI cI a_taken 5 f_taken]) (rest := []) (st' := [.int z15]) C mX9_120 q5_6 [.int y_9, .int y_13] (fun l D => cX9_has_ct l D cI y_9 y_13 e_z15) ⟨⟨rfl, rfl⟩, Nat.le_of_ble_eq_true rfl, Nat.le_of_ble_eq_true rfl⟩ rfl [] rfl rfl rfl rfl rfl (Nat.le_of_ble_eq_true rfl) (Nat.zero_le _) (Nat.zero_le _) rfl dX9_missed_141 ?_
        refine g_if_eq (tgt := 171) C dX9_missed_144 (by decide) (fun c16 => ?_) (fun c16 => ?_)
        · replace hs := vi_t hs c16
          obtain ⟨y17, e_y17, hs⟩ := vlet_ex hs
          refine g_iinc (pl := 10) (lv' := [(13, .int y17), (10, .long y14), (0, .ref h), (1, .int y_1), (2, .int y_2), (3, .int y_3), (4, .int y_4), (5, .long y_5), (7, .long y_7), (9, .int y_9), (12, .int y_12)]) C dX9_missed_171 rfl e_y17.symm (by decide) rfl ?_
          refine g_goto (tgt := 105) C dX9_missed_174 (by decide) ?_
          refine g_sub [2, 3, 4, 5, 6, 7, 8, 9, 1, 10, 0] rfl ?_
          exact ih y14 y_12 y17 f_taken hs
        · replace hs := vi_f hs c16
          refine g_aload_n (pl := 1) C dX9_missed_147 rfl rfl ?_
          refine g_get C fX9_55 0 rfl rfl dX9_missed_148 ?_
          refine g_iload (pl := 9) C dX9_missed_151 rfl ?_
          refine g_aload_n (pl := 1) C dX9_missed_153 rfl rfl ?_
          refine g_get C fX9_16 0 rfl rfl dX9_missed_154 ?_
          refine g_bipush (v := (nI 25)) C dX9_missed_157 rfl ?_
          refine g_iconst (v := (nI 5)) C dX9_missed_159 rfl ?_
          refine g_iload_n (pl := 2) C dX9_missed_160 rfl rfl ?_
          refine g_imul C dX9_missed_161 ?_
          refine g_iadd C dX9_missed_162 ?_
          refine g_iload (pl := 10) C dX9_missed_163 rfl ?_
          refine g_iadd C dX9_missed_165 ?_
          obtain ⟨b18, hs⟩ := vg_ok hs
          refine g_iald C 2 rfl (vin_ok b18) dX9_missed_166 ?_
          obtain ⟨y19, e_y19, hs⟩ := vlet_ex hs
          refine g_topi e_y19 ?_
          obtain ⟨b20, hs⟩ := vg_ok hs
          obtain ⟨u21, e_u21, hs⟩ := vlet_ex hs
          refine g_iast (ws' := [oX9 h a_post a_read a_now a_aside a_past f_undos a_kept f_keptMany a_sights f_sightMany a_text f_size f_at f_value a_weights a_tried f_above f_below f_paid a_row a_who a_order a_bestOrder a_costs a_taken, aI cI a_post 52 f_post, aI cI a_now 50 f_now, aI cI a_weights 8 f_weights, aI cI a_taken 5 u21]) C 4 rfl (vin_ok b20) (by rw [e_u21]; rfl) dX9_missed_167 ?_
          obtain ⟨y22, e_y22, hs⟩ := vlet_ex hs
          refine g_iinc (pl := 9) (lv' := [(12, .int y22), (10, .long y14), (0, .ref h), (1, .int y_1), (2, .int y_2), (3, .int y_3), (4, .int y_4), (5, .long y_5), (7, .long y_7), (9, .int y_9), (13, .int y_13)]) C dX9_missed_168 rfl e_y22.symm (by decide) rfl ?_
          obtain ⟨y23, e_y23, hs⟩ := vlet_ex hs
          refine g_iinc (pl := 10) (lv' := [(13, .int y23), (12, .int y22), (10, .long y14), (0, .ref h), (1, .int y_1), (2, .int y_2), (3, .int y_3), (4, .int y_4), (5, .long y_5), (7, .long y_7), (9, .int y_9)]) C dX9_missed_171 rfl e_y23.symm (by decide) rfl ?_
          refine g_goto (tgt := 105) C dX9_missed_174 (by decide) ?_
          refine g_sub [3, 4, 5, 6, 7, 8, 9, 10, 2, 1, 0] rfl ?_
          exact ih y14 y22 y23 u21 hs
set_option maxHeartbeats 4000000 in
set_option maxRecDepth 100000 in
theorem LX9_missed_87_w {cI : ClassId} {X : xT} (C : cx cI X 14 cX9_missed RX9 rmX9_missed) (h : Nat) (a_post : Nat) (a_read : Nat) (a_now : Nat) (a_aside : Nat) (a_past : Nat) (a_kept : Nat) (a_sights : Nat) (a_text : Nat) (a_weights : Nat) (a_tried : Nat) (a_row : Nat) (a_who : Nat) (a_order : Nat) (a_bestOrder : Nat) (a_costs : Nat) (a_taken : Nat) (f_undos : Int32) (f_keptMany : Int32) (f_sightMany : Int32) (f_size : Int32) (f_at : Int32) (f_value : Int32) (f_above : Int64) (f_below : Int64) (f_paid : Int32) (f_post : Nat → Int32) (f_now : Nat → Int32) (y_1 : Int32) (y_2 : Int32) (y_3 : Int32) (y_4 : Int32) (y_7 : Int64) {z : Int32 × (Nat → Int32) × Int64 × Int64 × (Nat → Int32)} (hR : ∀ (lv : List (Nat × Value)) (pc : Nat), decode cX9_missed pc = .ok (.ireturn, 1) → gg cI X 14 0 0 [oX9 h a_post a_read a_now a_aside a_past f_undos a_kept f_keptMany a_sights f_sightMany a_text f_size f_at f_value a_weights a_tried z.2.2.1 z.2.2.2.1 f_paid a_row a_who a_order a_bestOrder a_costs a_taken, aI cI a_post 52 f_post, aI cI a_now 50 f_now, aI cI a_weights 8 z.2.1, aI cI a_taken 5 z.2.2.2.2] lv pc [.int z.1]) : ∀ (n : Nat) (y_5 : Int64) (y_9 : Int32) (f_weights : Nat → Int32) (f_taken : Nat → Int32), LX9_missed_87 y_1 y_2 y_3 y_4 y_7 f_post f_now f_above f_below n y_5 y_9 f_weights f_taken = some z → gg cI X 14 0 0 [oX9 h a_post a_read a_now a_aside a_past f_undos a_kept f_keptMany a_sights f_sightMany a_text f_size f_at f_value a_weights a_tried f_above f_below f_paid a_row a_who a_order a_bestOrder a_costs a_taken, aI cI a_post 52 f_post, aI cI a_now 50 f_now, aI cI a_weights 8 f_weights, aI cI a_taken 5 f_taken] [(0, .ref h), (1, .int y_1), (2, .int y_2), (3, .int y_3), (4, .int y_4), (5, .long y_5), (7, .long y_7), (9, .int y_9)] 87 [] := by
  intro n
  induction n with
  | zero =>
    intro y_5 y_9 f_weights f_taken hs
    exact nn_ok hs
  | succ n ih =>
    intro y_5 y_9 f_weights f_taken hs
    rw [LX9_missed_87] at hs
    refine g_iload (pl := 7) C dX9_missed_87 rfl ?_
    refine g_iconst (v := (nI 1)) C dX9_missed_89 rfl ?_
    refine g_iload (pl := 4) C dX9_missed_90 rfl ?_
    refine g_ishl C dX9_missed_92 ?_
    refine g_icmp_ge (tgt := 254) C dX9_missed_93 (by decide) (fun c24 => ?_) (fun c24 => ?_)
    · replace hs := vi_t hs c24
      refine g_aload_n (pl := 0) C dX9_missed_254 rfl rfl ?_
      refine g_lload (pl := 5) C dX9_missed_255 rfl ?_
      refine g_lload (pl := 6) C dX9_missed_257 rfl ?_
      obtain ⟨z25, e_z25, hs⟩ := vb_ok hs
      refine g_callV (ws' := [oX9 h a_post a_read a_now a_aside a_past f_undos a_kept f_keptMany a_sights f_sightMany a_text f_size f_at f_value a_weights a_tried z25.1 z25.2 f_paid a_row a_who a_order a_bestOrder a_costs a_taken, aI cI a_post 52 f_post, aI cI a_now 50 f_now, aI cI a_weights 8 f_weights, aI cI a_taken 5 f_taken]) (rest := []) (st' := []) C mX9_202 q5_101 [.long y_5, .long y_7] (fun l D => cX9_lowest_ct l D cI h a_post a_read a_now a_aside a_past a_kept a_sights a_text a_weights a_tried a_row a_who a_order a_bestOrder a_costs a_taken f_undos f_keptMany f_sightMany f_size f_at f_value f_above f_below f_paid y_5 y_7 e_z25) ⟨⟨rfl, rfl⟩, Nat.le_of_ble_eq_true rfl, Nat.le_of_ble_eq_true rfl⟩ 0 rfl rfl rfl [0] rfl rfl rfl rfl rfl (Nat.le_of_ble_eq_true rfl) (Nat.zero_le _) (Nat.zero_le _) rfl dX9_missed_259 ?_
      refine g_iload_n (pl := 3) C dX9_missed_262 rfl rfl ?_
      refine g_if_ne (tgt := 273) C dX9_missed_263 (by decide) (fun c26 => ?_) (fun c26 => ?_)
      · replace hs := vi_f hs c26
        refine g_aload_n (pl := 0) C dX9_missed_273 rfl rfl ?_
        refine g_get C fX9_195 0 rfl rfl dX9_missed_274 ?_
        refine g_l2i C dX9_missed_277 ?_
        cases hs
        exact hR _ _ dX9_missed_278
      · replace hs := vi_t hs c26
        refine g_aload_n (pl := 0) C dX9_missed_266 rfl rfl ?_
        refine g_get C fX9_191 0 rfl rfl dX9_missed_267 ?_
        refine g_goto (tgt := 277) C dX9_missed_270 (by decide) ?_
        refine g_l2i C dX9_missed_277 ?_
        cases hs
        exact hR _ _ dX9_missed_278
    · replace hs := vi_f hs c24
      refine g_lconst (v := (lN 1)) C dX9_missed_96 rfl ?_
      refine g_lstore (lv' := [(10, .long (lN 1)), (0, .ref h), (1, .int y_1), (2, .int y_2), (3, .int y_3), (4, .int y_4), (5, .long y_5), (7, .long y_7), (9, .int y_9)]) C dX9_missed_97 (by decide) rfl ?_
      refine g_iconst (v := (nI 0)) C dX9_missed_99 rfl ?_
      refine g_istore (lv' := [(12, .int (nI 0)), (10, .long (lN 1)), (0, .ref h), (1, .int y_1), (2, .int y_2), (3, .int y_3), (4, .int y_4), (5, .long y_5), (7, .long y_7), (9, .int y_9)]) C dX9_missed_100 (by decide) rfl ?_
      refine g_iconst (v := (nI 0)) C dX9_missed_102 rfl ?_
      refine g_istore (lv' := [(13, .int (nI 0)), (12, .int (nI 0)), (10, .long (lN 1)), (0, .ref h), (1, .int y_1), (2, .int y_2), (3, .int y_3), (4, .int y_4), (5, .long y_5), (7, .long y_7), (9, .int y_9)]) C dX9_missed_103 (by decide) rfl ?_
      refine g_sub [3, 4, 5, 6, 7, 8, 9, 10, 2, 1, 0] rfl ?_
      refine LX9_missed_105_w C h a_post a_read a_now a_aside a_past a_kept a_sights a_text a_weights a_tried a_row a_who a_order a_bestOrder a_costs a_taken f_undos f_keptMany f_sightMany f_size f_at f_value f_above f_below f_paid f_post f_now f_weights y_1 y_2 y_3 y_4 y_5 y_7 y_9 hR ?_ _ (lN 1) (nI 0) (nI 0) f_taken hs
      · intro v27 v28 v29 hs
        refine g_aload_n (pl := 0) C dX9_missed_177 rfl rfl ?_
        refine g_aload_n (pl := 0) C dX9_missed_178 rfl rfl ?_
        refine g_get C fX9_7 0 rfl rfl dX9_missed_179 ?_
        refine g_bipush (v := (nI 37)) C dX9_missed_182 rfl ?_
        refine g_iload_n (pl := 1) C dX9_missed_184 rfl rfl ?_
        refine g_iadd C dX9_missed_185 ?_
        obtain ⟨b30, hs⟩ := vg_ok hs
        refine g_iald C 1 rfl (vin_ok b30) dX9_missed_186 ?_
        refine g_aload_n (pl := 0) C dX9_missed_187 rfl rfl ?_
        refine g_get C fX9_55 0 rfl rfl dX9_missed_188 ?_
        refine g_iconst (v := (nI 0)) C dX9_missed_191 rfl ?_
        refine g_iload (pl := 9) C dX9_missed_192 rfl ?_
        refine g_aload_n (pl := 0) C dX9_missed_194 rfl rfl ?_
        refine g_get C fX9_16 0 rfl rfl dX9_missed_195 ?_
        refine g_bipush (v := (nI 15)) C dX9_missed_198 rfl ?_
        refine g_iload_n (pl := 1) C dX9_missed_200 rfl rfl ?_
        refine g_iadd C dX9_missed_201 ?_
        obtain ⟨b31, hs⟩ := vg_ok hs
        refine g_iald C 2 rfl (vin_ok b31) dX9_missed_202 ?_
        refine g_aload_n (pl := 0) C dX9_missed_203 rfl rfl ?_
        refine g_get C fX9_7 0 rfl rfl dX9_missed_204 ?_
        refine g_iconst (v := (nI 4)) C dX9_missed_207 rfl ?_
        refine g_iald C 1 rfl (vin_ok rfl) dX9_missed_208 ?_
        refine g_aload_n (pl := 0) C dX9_missed_209 rfl rfl ?_
        refine g_get C fX9_7 0 rfl rfl dX9_missed_210 ?_
        refine g_iconst (v := (nI 5)) C dX9_missed_213 rfl ?_
        refine g_iald C 1 rfl (vin_ok rfl) dX9_missed_214 ?_
        obtain ⟨z32, e_z32, hs⟩ := vb_ok hs
        refine g_callV (ws' := [oX9 h a_post a_read a_now a_aside a_past f_undos a_kept f_keptMany a_sights f_sightMany a_text f_size f_at f_value a_weights a_tried f_above f_below f_paid a_row a_who a_order a_bestOrder a_costs a_taken, aI cI a_post 52 f_post, aI cI a_now 50 f_now, aI cI a_weights 8 z32, aI cI a_taken 5 v29]) (rest := []) (st' := []) C mX9_179 q5_77 [.int (f_post (Int32.toNatClampNeg ((nI 37) + y_1))), .ref a_taken, .int (nI 0), .int v28, .int (f_now (Int32.toNatClampNeg ((nI 15) + y_1))), .int (f_post (Int32.toNatClampNeg (nI 4))), .int (f_post (Int32.toNatClampNeg (nI 5)))] (fun l D => cX9_weigh_ct l D cI h a_post a_read a_now a_aside a_past a_kept a_sights a_text a_weights a_tried a_row a_who a_order a_bestOrder a_costs a_taken a_taken 5 f_undos f_keptMany f_sightMany f_size f_at f_value f_above f_below f_paid f_post f_weights v29 (f_post (Int32.toNatClampNeg ((nI 37) + y_1))) (nI 0) v28 (f_now (Int32.toNatClampNeg ((nI 15) + y_1))) (f_post (Int32.toNatClampNeg (nI 4))) (f_post (Int32.toNatClampNeg (nI 5))) e_z32) ⟨⟨rfl, rfl⟩, Nat.le_of_ble_eq_true rfl, Nat.le_of_ble_eq_true rfl⟩ 0 rfl rfl rfl [0, 1, 3, 4] rfl rfl rfl rfl rfl (Nat.le_of_ble_eq_true rfl) (Nat.zero_le _) (Nat.zero_le _) rfl dX9_missed_215 ?_
        refine g_lload (pl := 5) C dX9_missed_218 rfl ?_
        refine g_aload_n (pl := 0) C dX9_missed_220 rfl rfl ?_
        refine g_aload_n (pl := 0) C dX9_missed_221 rfl rfl ?_
        refine g_get C fX9_34 0 rfl rfl dX9_missed_222 ?_
        obtain ⟨z33, e_z33, hs⟩ := vb_ok hs
        refine g_callV (ws' := [oX9 h a_post a_read a_now a_aside a_past f_undos a_kept f_keptMany a_sights f_sightMany a_text f_size f_at f_value a_weights a_tried f_above f_below f_paid a_row a_who a_order a_bestOrder a_costs a_taken, aI cI a_post 52 f_post, aI cI a_now 50 f_now, aI cI a_weights 8 z32, aI cI a_taken 5 v29]) (rest := [.long y_5]) (st' := [.int z33, .long y_5]) C mX9_187 q5_117 [.ref a_weights] (fun l D => cX9_greatest_ct l D cI h a_post a_read a_now a_aside a_past a_kept a_sights a_text a_weights a_tried a_row a_who a_order a_bestOrder a_costs a_taken a_weights f_undos f_keptMany f_sightMany f_size f_at f_value f_above f_below f_paid f_post z32 e_z33) ⟨⟨rfl, rfl⟩, Nat.le_of_ble_eq_true rfl, Nat.le_of_ble_eq_true rfl⟩ 0 rfl rfl rfl [0, 1, 3] rfl rfl rfl rfl rfl (Nat.le_of_ble_eq_true rfl) (Nat.zero_le _) (Nat.zero_le _) rfl dX9_missed_225 ?_
        refine g_aload_n (pl := 0) C dX9_missed_228 rfl rfl ?_
        refine g_get C fX9_16 0 rfl rfl dX9_missed_229 ?_
        refine g_iconst (v := (nI 0)) C dX9_missed_232 rfl ?_
        refine g_iload_n (pl := 1) C dX9_missed_233 rfl rfl ?_
        refine g_iadd C dX9_missed_234 ?_
        obtain ⟨b34, hs⟩ := vg_ok hs
        refine g_iald C 2 rfl (vin_ok b34) dX9_missed_235 ?_
        refine g_icmp_ne (tgt := 244) C dX9_missed_236 (by decide) (fun c35 => ?_) (fun c35 => ?_)
        · replace hs := vi_f hs c35
          refine g_lconst (v := (lN 0)) C dX9_missed_244 rfl ?_
          refine g_ladd C dX9_missed_245 ?_
          obtain ⟨y36, e_y36, hs⟩ := vlet_ex hs
          refine g_topl e_y36 ?_
          refine g_lstore (lv' := [(5, .long y36), (0, .ref h), (1, .int y_1), (2, .int y_2), (3, .int y_3), (4, .int y_4), (7, .long y_7), (9, .int y_9), (10, .long v27), (12, .int v28)]) C dX9_missed_246 (by decide) rfl ?_
          obtain ⟨y37, e_y37, hs⟩ := vlet_ex hs
          refine g_iinc (pl := 7) (lv' := [(9, .int y37), (5, .long y36), (0, .ref h), (1, .int y_1), (2, .int y_2), (3, .int y_3), (4, .int y_4), (7, .long y_7), (10, .long v27), (12, .int v28)]) C dX9_missed_248 rfl e_y37.symm (by decide) rfl ?_
          refine g_goto (tgt := 87) C dX9_missed_251 (by decide) ?_
          refine g_sub [2, 3, 4, 5, 6, 1, 7, 0] rfl ?_
          exact ih y36 y37 z32 v29 hs
        · replace hs := vi_t hs c35
          refine g_lload (pl := 8) C dX9_missed_239 rfl ?_
          refine g_goto (tgt := 245) C dX9_missed_241 (by decide) ?_
          refine g_ladd C dX9_missed_245 ?_
          obtain ⟨y38, e_y38, hs⟩ := vlet_ex hs
          refine g_topl e_y38 ?_
          refine g_lstore (lv' := [(5, .long y38), (0, .ref h), (1, .int y_1), (2, .int y_2), (3, .int y_3), (4, .int y_4), (7, .long y_7), (9, .int y_9), (10, .long v27), (12, .int v28)]) C dX9_missed_246 (by decide) rfl ?_
          obtain ⟨y39, e_y39, hs⟩ := vlet_ex hs
          refine g_iinc (pl := 7) (lv' := [(9, .int y39), (5, .long y38), (0, .ref h), (1, .int y_1), (2, .int y_2), (3, .int y_3), (4, .int y_4), (7, .long y_7), (10, .long v27), (12, .int v28)]) C dX9_missed_248 rfl e_y39.symm (by decide) rfl ?_
          refine g_goto (tgt := 87) C dX9_missed_251 (by decide) ?_
          refine g_sub [2, 3, 4, 5, 6, 1, 7, 0] rfl ?_
          exact ih y38 y39 z32 v29 hs
set_option maxHeartbeats 4000000 in
set_option maxRecDepth 100000 in
theorem LX9_missed_63_w {cI : ClassId} {X : xT} (C : cx cI X 14 cX9_missed RX9 rmX9_missed) (h : Nat) (a_post : Nat) (a_read : Nat) (a_now : Nat) (a_aside : Nat) (a_past : Nat) (a_kept : Nat) (a_sights : Nat) (a_text : Nat) (a_weights : Nat) (a_tried : Nat) (a_row : Nat) (a_who : Nat) (a_order : Nat) (a_bestOrder : Nat) (a_costs : Nat) (a_taken : Nat) (f_undos : Int32) (f_keptMany : Int32) (f_sightMany : Int32) (f_size : Int32) (f_at : Int32) (f_value : Int32) (f_above : Int64) (f_below : Int64) (f_paid : Int32) (f_post : Nat → Int32) (f_now : Nat → Int32) (f_weights : Nat → Int32) (f_taken : Nat → Int32) (y_1 : Int32) (y_2 : Int32) (y_3 : Int32) (y_4 : Int32) (y_5 : Int64) {z : Int32 × (Nat → Int32) × Int64 × Int64 × (Nat → Int32)} (hR : ∀ (lv : List (Nat × Value)) (pc : Nat), decode cX9_missed pc = .ok (.ireturn, 1) → gg cI X 14 0 0 [oX9 h a_post a_read a_now a_aside a_past f_undos a_kept f_keptMany a_sights f_sightMany a_text f_size f_at f_value a_weights a_tried z.2.2.1 z.2.2.2.1 f_paid a_row a_who a_order a_bestOrder a_costs a_taken, aI cI a_post 52 f_post, aI cI a_now 50 f_now, aI cI a_weights 8 z.2.1, aI cI a_taken 5 z.2.2.2.2] lv pc [.int z.1]) : ∀ (n : Nat) (y_7 : Int64) (y_9 : Int32), LX9_missed_63 y_1 y_2 y_3 y_4 y_5 f_post f_now f_weights f_above f_below f_taken n y_7 y_9 = some z → gg cI X 14 0 0 [oX9 h a_post a_read a_now a_aside a_past f_undos a_kept f_keptMany a_sights f_sightMany a_text f_size f_at f_value a_weights a_tried f_above f_below f_paid a_row a_who a_order a_bestOrder a_costs a_taken, aI cI a_post 52 f_post, aI cI a_now 50 f_now, aI cI a_weights 8 f_weights, aI cI a_taken 5 f_taken] [(0, .ref h), (1, .int y_1), (2, .int y_2), (3, .int y_3), (4, .int y_4), (5, .long y_5), (7, .long y_7), (9, .int y_9)] 63 [] := by
  intro n
  induction n with
  | zero =>
    intro y_7 y_9 hs
    exact nn_ok hs
  | succ n ih =>
    intro y_7 y_9 hs
    rw [LX9_missed_63] at hs
    refine g_iload (pl := 7) C dX9_missed_63 rfl ?_
    refine g_iload (pl := 4) C dX9_missed_65 rfl ?_
    refine g_icmp_ge (tgt := 84) C dX9_missed_67 (by decide) (fun c40 => ?_) (fun c40 => ?_)
    · replace hs := vi_t hs c40
      refine g_iconst (v := (nI 0)) C dX9_missed_84 rfl ?_
      refine g_istore (lv' := [(9, .int (nI 0)), (0, .ref h), (1, .int y_1), (2, .int y_2), (3, .int y_3), (4, .int y_4), (5, .long y_5), (7, .long y_7)]) C dX9_missed_85 (by decide) rfl ?_
      refine g_sub [1, 2, 3, 4, 5, 6, 7, 0] rfl ?_
      exact LX9_missed_87_w C h a_post a_read a_now a_aside a_past a_kept a_sights a_text a_weights a_tried a_row a_who a_order a_bestOrder a_costs a_taken f_undos f_keptMany f_sightMany f_size f_at f_value f_above f_below f_paid f_post f_now y_1 y_2 y_3 y_4 y_7 hR _ y_5 (nI 0) f_weights f_taken hs
    · replace hs := vi_f hs c40
      refine g_lload (pl := 6) C dX9_missed_70 rfl ?_
      refine g_ldc2 (v := (lN 10)) C q6_5 dX9_missed_72 ?_
      refine g_lmul C dX9_missed_75 ?_
      obtain ⟨y41, e_y41, hs⟩ := vlet_ex hs
      refine g_topl e_y41 ?_
      refine g_lstore (lv' := [(7, .long y41), (0, .ref h), (1, .int y_1), (2, .int y_2), (3, .int y_3), (4, .int y_4), (5, .long y_5), (9, .int y_9)]) C dX9_missed_76 (by decide) rfl ?_
      obtain ⟨y42, e_y42, hs⟩ := vlet_ex hs
      refine g_iinc (pl := 7) (lv' := [(9, .int y42), (7, .long y41), (0, .ref h), (1, .int y_1), (2, .int y_2), (3, .int y_3), (4, .int y_4), (5, .long y_5)]) C dX9_missed_78 rfl e_y42.symm (by decide) rfl ?_
      refine g_goto (tgt := 63) C dX9_missed_81 (by decide) ?_
      refine g_sub [2, 3, 4, 5, 6, 7, 1, 0] rfl ?_
      exact ih y41 y42 hs
set_option maxHeartbeats 4000000 in
set_option maxRecDepth 100000 in
theorem cX9_missed_ct (l : Launch) (D : va_G) (cI : ClassId) (h : Nat) (a_post : Nat) (a_read : Nat) (a_now : Nat) (a_aside : Nat) (a_past : Nat) (a_kept : Nat) (a_sights : Nat) (a_text : Nat) (a_weights : Nat) (a_tried : Nat) (a_row : Nat) (a_who : Nat) (a_order : Nat) (a_bestOrder : Nat) (a_costs : Nat) (a_taken : Nat) (f_undos : Int32) (f_keptMany : Int32) (f_sightMany : Int32) (f_size : Int32) (f_at : Int32) (f_value : Int32) (f_above : Int64) (f_below : Int64) (f_paid : Int32) (f_post : Nat → Int32) (f_now : Nat → Int32) (f_weights : Nat → Int32) (f_taken : Nat → Int32) (x1 : Int32) (x2 : Int32) (x3 : Int32) {z : Int32 × (Nat → Int32) × Int64 × Int64 × (Nat → Int32)} (hs : sX9_missed f_post f_now f_weights f_above f_below f_taken x1 x2 x3 = some z) : ct l yX9_missed (.code yX9_missed cX9_missed 14 (some .int) :: gtb) rmX9_missed D cI [.ref h, .int x1, .int x2, .int x3] [oX9 h a_post a_read a_now a_aside a_past f_undos a_kept f_keptMany a_sights f_sightMany a_text f_size f_at f_value a_weights a_tried f_above f_below f_paid a_row a_who a_order a_bestOrder a_costs a_taken, aI cI a_post 52 f_post, aI cI a_now 50 f_now, aI cI a_weights 8 f_weights, aI cI a_taken 5 f_taken] (some (.int z.1)) [oX9 h a_post a_read a_now a_aside a_past f_undos a_kept f_keptMany a_sights f_sightMany a_text f_size f_at f_value a_weights a_tried z.2.2.1 z.2.2.2.1 f_paid a_row a_who a_order a_bestOrder a_costs a_taken, aI cI a_post 52 f_post, aI cI a_now 50 f_now, aI cI a_weights 8 z.2.1, aI cI a_taken 5 z.2.2.2.2] := by
  refine ct_ofI (own := RX9) (by decide +kernel) rfl (Nat.le_of_ble_eq_true rfl) (fun X C hD hR => ?_)
  unfold sX9_missed at hs
  show gg cI X 14 0 0 [oX9 h a_post a_read a_now a_aside a_past f_undos a_kept f_keptMany a_sights f_sightMany a_text f_size f_at f_value a_weights a_tried f_above f_below f_paid a_row a_who a_order a_bestOrder a_costs a_taken, aI cI a_post 52 f_post, aI cI a_now 50 f_now, aI cI a_weights 8 f_weights, aI cI a_taken 5 f_taken] [(0, .ref h), (1, .int x1), (2, .int x2), (3, .int x3)] 0 []
  refine g_aload_n (pl := 0) C dX9_missed_0 rfl rfl ?_
  refine g_iload_n (pl := 1) C dX9_missed_1 rfl rfl ?_
  obtain ⟨z43, e_z43, hs⟩ := vb_ok hs
  refine g_callV (ws' := [oX9 h a_post a_read a_now a_aside a_past f_undos a_kept f_keptMany a_sights f_sightMany a_text f_size f_at f_value a_weights a_tried f_above f_below f_paid a_row a_who a_order a_bestOrder a_costs a_taken, aI cI a_post 52 f_post, aI cI a_now 50 f_now, aI cI a_weights 8 f_weights, aI cI a_taken 5 f_taken]) (rest := []) (st' := [.int z43]) C mX9_165 q5_61 [.int x1] (fun l D => cX9_isActor_ct l D cI h a_post a_read a_now a_aside a_past a_kept a_sights a_text a_weights a_tried a_row a_who a_order a_bestOrder a_costs a_taken f_undos f_keptMany f_sightMany f_size f_at f_value f_above f_below f_paid f_post x1 e_z43) ⟨⟨rfl, rfl⟩, Nat.le_of_ble_eq_true rfl, Nat.le_of_ble_eq_true rfl⟩ 0 rfl rfl rfl [0, 1] rfl rfl rfl rfl rfl (Nat.le_of_ble_eq_true rfl) (Nat.zero_le _) (Nat.zero_le _) rfl dX9_missed_2 ?_
  refine g_if_eq (tgt := 30) C dX9_missed_5 (by decide) (fun c44 => ?_) (fun c44 => ?_)
  · replace hs := vi_t hs c44
    refine g_iconst (v := (-1)) C dX9_missed_30 rfl ?_
    cases hs
    exact hR _ _ dX9_missed_31
  · replace hs := vi_f hs c44
    refine g_iload_n (pl := 2) C dX9_missed_8 rfl rfl ?_
    refine g_i2l C dX9_missed_9 ?_
    refine g_lconst (v := (lN 0)) C dX9_missed_10 rfl ?_
    refine g_ldc2 (v := (lN 10)) C q6_5 dX9_missed_11 ?_
    obtain ⟨z45, e_z45, hs⟩ := vb_ok hs
    refine g_callS (ws' := [oX9 h a_post a_read a_now a_aside a_past f_undos a_kept f_keptMany a_sights f_sightMany a_text f_size f_at f_value a_weights a_tried f_above f_below f_paid a_row a_who a_order a_bestOrder a_costs a_taken, aI cI a_post 52 f_post, aI cI a_now 50 f_now, aI cI a_weights 8 f_weights, aI cI a_taken 5 f_taken]) (rest := []) (st' := [.int z45]) C mX9_82 q4_199 [.long (Int32.toInt64 x2), .long (lN 0), .long (lN 10)] (fun l D => cX9_in_ct l D cI (Int32.toInt64 x2) (lN 0) (lN 10) e_z45) ⟨⟨rfl, rfl⟩, Nat.le_of_ble_eq_true rfl, Nat.le_of_ble_eq_true rfl⟩ rfl [] rfl rfl rfl rfl rfl (Nat.le_of_ble_eq_true rfl) (Nat.zero_le _) (Nat.zero_le _) rfl dX9_missed_14 ?_
    refine g_if_eq (tgt := 30) C dX9_missed_17 (by decide) (fun c46 => ?_) (fun c46 => ?_)
    · replace hs := vi_t hs c46
      refine g_iconst (v := (-1)) C dX9_missed_30 rfl ?_
      cases hs
      exact hR _ _ dX9_missed_31
    · replace hs := vi_f hs c46
      refine g_iload_n (pl := 3) C dX9_missed_20 rfl rfl ?_
      refine g_i2l C dX9_missed_21 ?_
      refine g_lconst (v := (lN 0)) C dX9_missed_22 rfl ?_
      refine g_lconst (v := (lN 1)) C dX9_missed_23 rfl ?_
      obtain ⟨z47, e_z47, hs⟩ := vb_ok hs
      refine g_callS (ws' := [oX9 h a_post a_read a_now a_aside a_past f_undos a_kept f_keptMany a_sights f_sightMany a_text f_size f_at f_value a_weights a_tried f_above f_below f_paid a_row a_who a_order a_bestOrder a_costs a_taken, aI cI a_post 52 f_post, aI cI a_now 50 f_now, aI cI a_weights 8 f_weights, aI cI a_taken 5 f_taken]) (rest := []) (st' := [.int z47]) C mX9_82 q4_199 [.long (Int32.toInt64 x3), .long (lN 0), .long (lN 1)] (fun l D => cX9_in_ct l D cI (Int32.toInt64 x3) (lN 0) (lN 1) e_z47) ⟨⟨rfl, rfl⟩, Nat.le_of_ble_eq_true rfl, Nat.le_of_ble_eq_true rfl⟩ rfl [] rfl rfl rfl rfl rfl (Nat.le_of_ble_eq_true rfl) (Nat.zero_le _) (Nat.zero_le _) rfl dX9_missed_24 ?_
      refine g_if_ne (tgt := 32) C dX9_missed_27 (by decide) (fun c48 => ?_) (fun c48 => ?_)
      · replace hs := vi_f hs c48
        refine g_aload_n (pl := 0) C dX9_missed_32 rfl rfl ?_
        refine g_iload_n (pl := 1) C dX9_missed_33 rfl rfl ?_
        obtain ⟨z49, e_z49, hs⟩ := vb_ok hs
        refine g_callV (ws' := [oX9 h a_post a_read a_now a_aside a_past f_undos a_kept f_keptMany a_sights f_sightMany a_text f_size f_at f_value a_weights a_tried f_above f_below f_paid a_row a_who a_order a_bestOrder a_costs a_taken, aI cI a_post 52 f_post, aI cI a_now 50 f_now, aI cI a_weights 8 f_weights, aI cI a_taken 5 f_taken]) (rest := []) (st' := [.int z49]) C mX9_206 q5_109 [.int x1] (fun l D => cX9_waits_ct l D cI h a_post a_read a_now a_aside a_past a_kept a_sights a_text a_weights a_tried a_row a_who a_order a_bestOrder a_costs a_taken f_undos f_keptMany f_sightMany f_size f_at f_value f_above f_below f_paid f_now x1 e_z49) ⟨⟨rfl, rfl⟩, Nat.le_of_ble_eq_true rfl, Nat.le_of_ble_eq_true rfl⟩ 0 rfl rfl rfl [0, 2] rfl rfl rfl rfl rfl (Nat.le_of_ble_eq_true rfl) (Nat.zero_le _) (Nat.zero_le _) rfl dX9_missed_34 ?_
        refine g_if_ne (tgt := 43) C dX9_missed_37 (by decide) (fun c50 => ?_) (fun c50 => ?_)
        · replace hs := vi_f hs c50
          refine g_aload_n (pl := 0) C dX9_missed_43 rfl rfl ?_
          refine g_get C fX9_16 0 rfl rfl dX9_missed_44 ?_
          refine g_bipush (v := (nI 10)) C dX9_missed_47 rfl ?_
          refine g_iload_n (pl := 1) C dX9_missed_49 rfl rfl ?_
          refine g_iadd C dX9_missed_50 ?_
          obtain ⟨b51, hs⟩ := vg_ok hs
          refine g_iald C 2 rfl (vin_ok b51) dX9_missed_51 ?_
          obtain ⟨y52, e_y52, hs⟩ := vlet_ex hs
          refine g_topi e_y52 ?_
          refine g_istore (lv' := [(4, .int y52), (0, .ref h), (1, .int x1), (2, .int x2), (3, .int x3)]) C dX9_missed_52 (by decide) rfl ?_
          refine g_lconst (v := (lN 0)) C dX9_missed_54 rfl ?_
          refine g_lstore (lv' := [(5, .long (lN 0)), (4, .int y52), (0, .ref h), (1, .int x1), (2, .int x2), (3, .int x3)]) C dX9_missed_55 (by decide) rfl ?_
          refine g_lconst (v := (lN 1)) C dX9_missed_57 rfl ?_
          refine g_lstore (lv' := [(7, .long (lN 1)), (5, .long (lN 0)), (4, .int y52), (0, .ref h), (1, .int x1), (2, .int x2), (3, .int x3)]) C dX9_missed_58 (by decide) rfl ?_
          refine g_iconst (v := (nI 0)) C dX9_missed_60 rfl ?_
          refine g_istore (lv' := [(9, .int (nI 0)), (7, .long (lN 1)), (5, .long (lN 0)), (4, .int y52), (0, .ref h), (1, .int x1), (2, .int x2), (3, .int x3)]) C dX9_missed_61 (by decide) rfl ?_
          refine g_sub [4, 5, 6, 7, 3, 2, 1, 0] rfl ?_
          exact LX9_missed_63_w C h a_post a_read a_now a_aside a_past a_kept a_sights a_text a_weights a_tried a_row a_who a_order a_bestOrder a_costs a_taken f_undos f_keptMany f_sightMany f_size f_at f_value f_above f_below f_paid f_post f_now f_weights f_taken x1 x2 x3 y52 (lN 0) hR _ (lN 1) (nI 0) hs
        · replace hs := vi_t hs c50
          refine g_bipush (v := (-2)) C dX9_missed_40 rfl ?_
          cases hs
          exact hR _ _ dX9_missed_42
      · replace hs := vi_t hs c48
        refine g_iconst (v := (-1)) C dX9_missed_30 rfl ?_
        cases hs
        exact hR _ _ dX9_missed_31
def LX9_throughOf_5 (y_1 : Int32) (y_2 : Int32) (f_p1 : Nat → Int32) : Nat → Int32 → Int32 → Option (Int32)
  | 0, _, _ => none
  | n + 1, y_3, y_4 =>
    vi (y_2 ≤ y_4) inferInstance (
      some (y_3)) (
      vg (vin ((nI 20) + y_4) 50) (
      vi ((f_p1 (Int32.toNatClampNeg ((nI 20) + y_4))) = y_1) inferInstance (
        vlet (y_3 + (nI 1)) fun y6 =>
        vlet (y_4 + (nI 1)) fun y7 =>
        LX9_throughOf_5 y_1 y_2 f_p1 n y6 y7) (
        vlet (y_3 + (nI 0)) fun y4 =>
        vlet (y_4 + (nI 1)) fun y5 =>
        LX9_throughOf_5 y_1 y_2 f_p1 n y4 y5)))
def sX9_throughOf (f_p1 : Nat → Int32) (x2 : Int32) (x3 : Int32) : Option (Int32) :=
  LX9_throughOf_5 x2 x3 f_p1 vF (nI 0) (nI 0)
abbrev rmX9_throughOf : Room := { frames := 0, cells := 0, slots := 0, locals := 0 }
set_option maxHeartbeats 4000000 in
set_option maxRecDepth 100000 in
theorem LX9_throughOf_5_w {cI : ClassId} {X : xT} (C : cx cI X 5 cX9_throughOf RX9 rmX9_throughOf) (a_p1 : Nat) (f_p1 : Nat → Int32) (y_1 : Int32) (y_2 : Int32) {z : Int32} (hR : ∀ (lv : List (Nat × Value)) (pc : Nat), decode cX9_throughOf pc = .ok (.ireturn, 1) → gg cI X 5 0 0 [aI cI a_p1 50 f_p1] lv pc [.int z]) : ∀ (n : Nat) (y_3 : Int32) (y_4 : Int32), LX9_throughOf_5 y_1 y_2 f_p1 n y_3 y_4 = some z → gg cI X 5 0 0 [aI cI a_p1 50 f_p1] [(0, .ref a_p1), (1, .int y_1), (2, .int y_2), (3, .int y_3), (4, .int y_4)] 5 [] := by
  intro n
  induction n with
  | zero =>
    intro y_3 y_4 hs
    exact nn_ok hs
  | succ n ih =>
    intro y_3 y_4 hs
    rw [LX9_throughOf_5] at hs
    refine g_iload (pl := 4) C dX9_throughOf_5 rfl ?_
    refine g_iload_n (pl := 2) C dX9_throughOf_7 rfl rfl ?_
    refine g_icmp_ge (tgt := 36) C dX9_throughOf_8 (by decide) (fun c1 => ?_) (fun c1 => ?_)
    · replace hs := vi_t hs c1
      refine g_iload_n (pl := 3) C dX9_throughOf_36 rfl rfl ?_
      cases hs
      exact hR _ _ dX9_throughOf_37
    · replace hs := vi_f hs c1
      refine g_iload_n (pl := 3) C dX9_throughOf_11 rfl rfl ?_
      refine g_aload_n (pl := 0) C dX9_throughOf_12 rfl rfl ?_
      refine g_bipush (v := (nI 20)) C dX9_throughOf_13 rfl ?_
      refine g_iload (pl := 4) C dX9_throughOf_15 rfl ?_
      refine g_iadd C dX9_throughOf_17 ?_
      obtain ⟨b2, hs⟩ := vg_ok hs
      refine g_iald C 0 rfl (vin_ok b2) dX9_throughOf_18 ?_
      refine g_iload_n (pl := 1) C dX9_throughOf_19 rfl rfl ?_
      refine g_icmp_ne (tgt := 27) C dX9_throughOf_20 (by decide) (fun c3 => ?_) (fun c3 => ?_)
      · replace hs := vi_f hs c3
        refine g_iconst (v := (nI 0)) C dX9_throughOf_27 rfl ?_
        refine g_iadd C dX9_throughOf_28 ?_
        obtain ⟨y4, e_y4, hs⟩ := vlet_ex hs
        refine g_topi e_y4 ?_
        refine g_istore_n (lv' := [(3, .int y4), (0, .ref a_p1), (1, .int y_1), (2, .int y_2), (4, .int y_4)]) C dX9_throughOf_29 rfl (by decide) rfl ?_
        obtain ⟨y5, e_y5, hs⟩ := vlet_ex hs
        refine g_iinc (pl := 4) (lv' := [(4, .int y5), (3, .int y4), (0, .ref a_p1), (1, .int y_1), (2, .int y_2)]) C dX9_throughOf_30 rfl e_y5.symm (by decide) rfl ?_
        refine g_goto (tgt := 5) C dX9_throughOf_33 (by decide) ?_
        refine g_sub [2, 3, 4, 1, 0] rfl ?_
        exact ih y4 y5 hs
      · replace hs := vi_t hs c3
        refine g_iconst (v := (nI 1)) C dX9_throughOf_23 rfl ?_
        refine g_goto (tgt := 28) C dX9_throughOf_24 (by decide) ?_
        refine g_iadd C dX9_throughOf_28 ?_
        obtain ⟨y6, e_y6, hs⟩ := vlet_ex hs
        refine g_topi e_y6 ?_
        refine g_istore_n (lv' := [(3, .int y6), (0, .ref a_p1), (1, .int y_1), (2, .int y_2), (4, .int y_4)]) C dX9_throughOf_29 rfl (by decide) rfl ?_
        obtain ⟨y7, e_y7, hs⟩ := vlet_ex hs
        refine g_iinc (pl := 4) (lv' := [(4, .int y7), (3, .int y6), (0, .ref a_p1), (1, .int y_1), (2, .int y_2)]) C dX9_throughOf_30 rfl e_y7.symm (by decide) rfl ?_
        refine g_goto (tgt := 5) C dX9_throughOf_33 (by decide) ?_
        refine g_sub [2, 3, 4, 1, 0] rfl ?_
        exact ih y6 y7 hs
set_option maxHeartbeats 4000000 in
set_option maxRecDepth 100000 in
theorem cX9_throughOf_ct (l : Launch) (D : va_G) (cI : ClassId) (a_p1 : Nat) (f_p1 : Nat → Int32) (x2 : Int32) (x3 : Int32) {z : Int32} (hs : sX9_throughOf f_p1 x2 x3 = some z) : ct l yX9_throughOf (.code yX9_throughOf cX9_throughOf 5 (some .int) :: gtb) rmX9_throughOf D cI [.ref a_p1, .int x2, .int x3] [aI cI a_p1 50 f_p1] (some (.int z)) [aI cI a_p1 50 f_p1] := by
  refine ct_ofI (own := RX9) (by decide +kernel) rfl (Nat.le_of_ble_eq_true rfl) (fun X C hD hR => ?_)
  unfold sX9_throughOf at hs
  show gg cI X 5 0 0 [aI cI a_p1 50 f_p1] [(0, .ref a_p1), (1, .int x2), (2, .int x3)] 0 []
  refine g_iconst (v := (nI 0)) C dX9_throughOf_0 rfl ?_
  refine g_istore_n (lv' := [(3, .int (nI 0)), (0, .ref a_p1), (1, .int x2), (2, .int x3)]) C dX9_throughOf_1 rfl (by decide) rfl ?_
  refine g_iconst (v := (nI 0)) C dX9_throughOf_2 rfl ?_
  refine g_istore (lv' := [(4, .int (nI 0)), (3, .int (nI 0)), (0, .ref a_p1), (1, .int x2), (2, .int x3)]) C dX9_throughOf_3 (by decide) rfl ?_
  refine g_sub [2, 3, 4, 1, 0] rfl ?_
  exact LX9_throughOf_5_w C a_p1 f_p1 x2 x3 hR _ (nI 0) (nI 0) hs
def LX9_season_57 (y_1 : Int32) (y_2 : Int32) (y_3 : Int32) (f_post : Nat → Int32) : Nat → Int32 → Int32 → (Nat → Int32) → (Nat → Int32) → Int32 → Option (Int32 × (Nat → Int32) × (Nat → Int32) × Int32)
  | 0, _, _, _, _, _ => none
  | n + 1, y_4, y_5, f_aside, f_weights, f_paid =>
    vi (y_2 ≤ y_5) inferInstance (
      vi (y_3 = 0) inferInstance (
        vb (sX9_throughOf f_aside (nI 1) (f_post (Int32.toNatClampNeg (nI 2)))) fun z3 =>
        some (z3, f_aside, f_weights, f_paid)) (
        some (y_4, f_aside, f_weights, f_paid))) (
      vlet ((((lN 7919) * (Int32.toInt64 y_1)) + ((lN 6151) * (Int32.toInt64 y_5))) + (lN 1)) fun y4 =>
      vlet (Int64.toInt32 (((y4 * y4) - (y4 * y4) / (lN 65521) * (lN 65521)) / (lN 2))) fun y5 =>
      vg (decide (¬ (f_post (Int32.toNatClampNeg (nI 2))) = 0)) (
      vlet (y5 - y5 / (f_post (Int32.toNatClampNeg (nI 2))) * (f_post (Int32.toNatClampNeg (nI 2)))) fun y7 =>
      vi (((y5 / (nI 256)) - (y5 / (nI 256)) / (nI 3) * (nI 3)) = 0) inferInstance (
        vg (vin ((nI 20) + y7) 50) (
        vi ((f_aside (Int32.toNatClampNeg ((nI 20) + y7))) = 0) inferInstance (
          vb (sX9_guesses f_post f_weights f_paid f_aside y7) fun z19 =>
          vlet (y_4 + z19.2.2.1) fun y20 =>
          vlet (y_5 + (nI 1)) fun y21 =>
          LX9_season_57 y_1 y_2 y_3 f_post n y20 y21 z19.2.2.2 z19.2.1 z19.2.2.1) (
          vlet (y_5 + (nI 1)) fun y18 =>
          LX9_season_57 y_1 y_2 y_3 f_post n y_4 y18 f_aside f_weights f_paid))) (
        vb (sX9_mayShow f_aside y7) fun z9 =>
        vi (z9 = 0) inferInstance (
          vlet (y_5 + (nI 1)) fun y11 =>
          LX9_season_57 y_1 y_2 y_3 f_post n y_4 y11 f_aside f_weights f_paid) (
          vb (sX9_signs f_post) fun z12 =>
          vg (decide (¬ z12 = 0)) (
          vb (sX9_shows f_post f_aside y7 ((y5 / (nI 8)) - (y5 / (nI 8)) / z12 * z12)) fun z14 =>
          vlet (y_5 + (nI 1)) fun y15 =>
          LX9_season_57 y_1 y_2 y_3 f_post n y_4 y15 z14.2 f_weights f_paid)))))
def sX9_season (f_post : Nat → Int32) (f_now : Nat → Int32) (f_aside : Nat → Int32) (f_weights : Nat → Int32) (f_paid : Int32) (x1 : Int32) (x2 : Int32) (x3 : Int32) : Option (Int32 × (Nat → Int32) × (Nat → Int32) × Int32) :=
  vb (sX9_in (Int32.toInt64 x1) (lN 0) (lN 9999)) fun z22 =>
  vi (z22 = 0) inferInstance (
    some ((-1), f_aside, f_weights, f_paid)) (
    vb (sX9_in (Int32.toInt64 x2) (lN 1) (lN 60)) fun z24 =>
    vi (z24 = 0) inferInstance (
      some ((-1), f_aside, f_weights, f_paid)) (
      vb (sX9_in (Int32.toInt64 x3) (lN 0) (lN 1)) fun z26 =>
      vi (z26 = 0) inferInstance (
        some ((-1), f_aside, f_weights, f_paid)) (
        vb (sX9_copies 50 50 f_now f_aside (nI 0) (nI 0) (nI 50)) fun z28 =>
        LX9_season_57 x1 x2 x3 f_post vF (nI 0) (nI 0) z28 f_weights f_paid)))
abbrev rmX9_season : Room := { frames := 7, cells := 0, slots := 0, locals := 170 }
set_option maxHeartbeats 4000000 in
set_option maxRecDepth 100000 in
theorem LX9_season_57_w {cI : ClassId} {X : xT} (C : cx cI X 11 cX9_season RX9 rmX9_season) (h : Nat) (a_post : Nat) (a_read : Nat) (a_now : Nat) (a_aside : Nat) (a_past : Nat) (a_kept : Nat) (a_sights : Nat) (a_text : Nat) (a_weights : Nat) (a_tried : Nat) (a_row : Nat) (a_who : Nat) (a_order : Nat) (a_bestOrder : Nat) (a_costs : Nat) (a_taken : Nat) (f_undos : Int32) (f_keptMany : Int32) (f_sightMany : Int32) (f_size : Int32) (f_at : Int32) (f_value : Int32) (f_above : Int64) (f_below : Int64) (f_post : Nat → Int32) (f_now : Nat → Int32) (y_1 : Int32) (y_2 : Int32) (y_3 : Int32) {z : Int32 × (Nat → Int32) × (Nat → Int32) × Int32} (hR : ∀ (lv : List (Nat × Value)) (pc : Nat), decode cX9_season pc = .ok (.ireturn, 1) → gg cI X 11 0 0 [oX9 h a_post a_read a_now a_aside a_past f_undos a_kept f_keptMany a_sights f_sightMany a_text f_size f_at f_value a_weights a_tried f_above f_below z.2.2.2 a_row a_who a_order a_bestOrder a_costs a_taken, aI cI a_post 52 f_post, aI cI a_now 50 f_now, aI cI a_aside 50 z.2.1, aI cI a_weights 8 z.2.2.1] lv pc [.int z.1]) : ∀ (n : Nat) (y_4 : Int32) (y_5 : Int32) (f_aside : Nat → Int32) (f_weights : Nat → Int32) (f_paid : Int32), LX9_season_57 y_1 y_2 y_3 f_post n y_4 y_5 f_aside f_weights f_paid = some z → gg cI X 11 0 0 [oX9 h a_post a_read a_now a_aside a_past f_undos a_kept f_keptMany a_sights f_sightMany a_text f_size f_at f_value a_weights a_tried f_above f_below f_paid a_row a_who a_order a_bestOrder a_costs a_taken, aI cI a_post 52 f_post, aI cI a_now 50 f_now, aI cI a_aside 50 f_aside, aI cI a_weights 8 f_weights] [(0, .ref h), (1, .int y_1), (2, .int y_2), (3, .int y_3), (4, .int y_4), (5, .int y_5)] 57 [] := by
  intro n
  induction n with
  | zero =>
    intro y_4 y_5 f_aside f_weights f_paid hs
    exact nn_ok hs
  | succ n ih =>
    intro y_4 y_5 f_aside f_weights f_paid hs
    rw [LX9_season_57] at hs
    refine g_iload (pl := 5) C dX9_season_57 rfl ?_
    refine g_iload_n (pl := 2) C dX9_season_59 rfl rfl ?_
    refine g_icmp_ge (tgt := 196) C dX9_season_60 (by decide) (fun c1 => ?_) (fun c1 => ?_)
    · replace hs := vi_t hs c1
      refine g_iload_n (pl := 3) C dX9_season_196 rfl rfl ?_
      refine g_if_ne (tgt := 217) C dX9_season_197 (by decide) (fun c2 => ?_) (fun c2 => ?_)
      · replace hs := vi_f hs c2
        refine g_iload (pl := 4) C dX9_season_217 rfl ?_
        cases hs
        exact hR _ _ dX9_season_219
      · replace hs := vi_t hs c2
        refine g_aload_n (pl := 0) C dX9_season_200 rfl rfl ?_
        refine g_get C fX9_19 0 rfl rfl dX9_season_201 ?_
        refine g_iconst (v := (nI 1)) C dX9_season_204 rfl ?_
        refine g_aload_n (pl := 0) C dX9_season_205 rfl rfl ?_
        refine g_get C fX9_7 0 rfl rfl dX9_season_206 ?_
        refine g_iconst (v := (nI 2)) C dX9_season_209 rfl ?_
        refine g_iald C 1 rfl (vin_ok rfl) dX9_season_210 ?_
        obtain ⟨z3, e_z3, hs⟩ := vb_ok hs
        refine g_callS (ws' := [oX9 h a_post a_read a_now a_aside a_past f_undos a_kept f_keptMany a_sights f_sightMany a_text f_size f_at f_value a_weights a_tried f_above f_below f_paid a_row a_who a_order a_bestOrder a_costs a_taken, aI cI a_post 52 f_post, aI cI a_now 50 f_now, aI cI a_aside 50 f_aside, aI cI a_weights 8 f_weights]) (rest := []) (st' := [.int z3]) C mX9_287 q6_18 [.ref a_aside, .int (nI 1), .int (f_post (Int32.toNatClampNeg (nI 2)))] (fun l D => cX9_throughOf_ct l D cI a_aside f_aside (nI 1) (f_post (Int32.toNatClampNeg (nI 2))) e_z3) ⟨⟨rfl, rfl⟩, Nat.le_of_ble_eq_true rfl, Nat.le_of_ble_eq_true rfl⟩ rfl [3] rfl rfl rfl rfl rfl (Nat.le_of_ble_eq_true rfl) (Nat.zero_le _) (Nat.zero_le _) rfl dX9_season_211 ?_
        refine g_goto (tgt := 219) C dX9_season_214 (by decide) ?_
        cases hs
        exact hR _ _ dX9_season_219
    · replace hs := vi_f hs c1
      refine g_ldc2 (v := (lN 7919)) C q6_12 dX9_season_63 ?_
      refine g_iload_n (pl := 1) C dX9_season_66 rfl rfl ?_
      refine g_i2l C dX9_season_67 ?_
      refine g_lmul C dX9_season_68 ?_
      refine g_ldc2 (v := (lN 6151)) C q6_13 dX9_season_69 ?_
      refine g_iload (pl := 5) C dX9_season_72 rfl ?_
      refine g_i2l C dX9_season_74 ?_
      refine g_lmul C dX9_season_75 ?_
      refine g_ladd C dX9_season_76 ?_
      refine g_lconst (v := (lN 1)) C dX9_season_77 rfl ?_
      refine g_ladd C dX9_season_78 ?_
      obtain ⟨y4, e_y4, hs⟩ := vlet_ex hs
      refine g_topl e_y4 ?_
      refine g_lstore (lv' := [(6, .long y4), (0, .ref h), (1, .int y_1), (2, .int y_2), (3, .int y_3), (4, .int y_4), (5, .int y_5)]) C dX9_season_79 (by decide) rfl ?_
      refine g_lload (pl := 0) C dX9_season_81 rfl ?_
      refine g_lload (pl := 0) C dX9_season_83 rfl ?_
      refine g_lmul C dX9_season_85 ?_
      refine g_ldc2 (v := (lN 65521)) C q6_14 dX9_season_86 ?_
      refine g_lrem C dX9_season_89 (by decide) ?_
      refine g_ldc2 (v := (lN 2)) C q6_15 dX9_season_90 ?_
      refine g_ldiv C dX9_season_93 (by decide) ?_
      refine g_l2i C dX9_season_94 ?_
      obtain ⟨y5, e_y5, hs⟩ := vlet_ex hs
      refine g_topi e_y5 ?_
      refine g_istore (lv' := [(8, .int y5), (6, .long y4), (0, .ref h), (1, .int y_1), (2, .int y_2), (3, .int y_3), (4, .int y_4), (5, .int y_5)]) C dX9_season_95 (by decide) rfl ?_
      refine g_iload (pl := 0) C dX9_season_97 rfl ?_
      refine g_aload_n (pl := 2) C dX9_season_99 rfl rfl ?_
      refine g_get C fX9_7 0 rfl rfl dX9_season_100 ?_
      refine g_iconst (v := (nI 2)) C dX9_season_103 rfl ?_
      refine g_iald C 1 rfl (vin_ok rfl) dX9_season_104 ?_
      obtain ⟨b6, hs⟩ := vg_ok hs
      refine g_irem C dX9_season_105 (of_decide_eq_true b6) ?_
      obtain ⟨y7, e_y7, hs⟩ := vlet_ex hs
      refine g_topi e_y7 ?_
      refine g_istore (lv' := [(9, .int y7), (8, .int y5), (6, .long y4), (0, .ref h), (1, .int y_1), (2, .int y_2), (3, .int y_3), (4, .int y_4), (5, .int y_5)]) C dX9_season_106 (by decide) rfl ?_
      refine g_iload (pl := 1) C dX9_season_108 rfl ?_
      refine g_sipush (v := (nI 256)) C dX9_season_110 rfl ?_
      refine g_idiv C dX9_season_113 (by decide) ?_
      refine g_iconst (v := (nI 3)) C dX9_season_114 rfl ?_
      refine g_irem C dX9_season_115 (by decide) ?_
      refine g_if_ne (tgt := 156) C dX9_season_116 (by decide) (fun c8 => ?_) (fun c8 => ?_)
      · replace hs := vi_f hs c8
        refine g_aload_n (pl := 3) C dX9_season_156 rfl rfl ?_
        refine g_get C fX9_19 0 rfl rfl dX9_season_157 ?_
        refine g_iload (pl := 0) C dX9_season_160 rfl ?_
        obtain ⟨z9, e_z9, hs⟩ := vb_ok hs
        refine g_callS (ws' := [oX9 h a_post a_read a_now a_aside a_past f_undos a_kept f_keptMany a_sights f_sightMany a_text f_size f_at f_value a_weights a_tried f_above f_below f_paid a_row a_who a_order a_bestOrder a_costs a_taken, aI cI a_post 52 f_post, aI cI a_now 50 f_now, aI cI a_aside 50 f_aside, aI cI a_weights 8 f_weights]) (rest := []) (st' := [.int z9]) C mX9_213 q5_124 [.ref a_aside, .int y7] (fun l D => cX9_mayShow_ct l D cI a_aside f_aside y7 e_z9) ⟨⟨rfl, rfl⟩, Nat.le_of_ble_eq_true rfl, Nat.le_of_ble_eq_true rfl⟩ rfl [3] rfl rfl rfl rfl rfl (Nat.le_of_ble_eq_true rfl) (Nat.zero_le _) (Nat.zero_le _) rfl dX9_season_162 ?_
        refine g_if_eq (tgt := 190) C dX9_season_165 (by decide) (fun c10 => ?_) (fun c10 => ?_)
        · replace hs := vi_t hs c10
          obtain ⟨y11, e_y11, hs⟩ := vlet_ex hs
          refine g_iinc (pl := 8) (lv' := [(5, .int y11), (9, .int y7), (8, .int y5), (6, .long y4), (0, .ref h), (1, .int y_1), (2, .int y_2), (3, .int y_3), (4, .int y_4)]) C dX9_season_190 rfl e_y11.symm (by decide) rfl ?_
          refine g_goto (tgt := 57) C dX9_season_193 (by decide) ?_
          refine g_sub [4, 5, 6, 7, 8, 0] rfl ?_
          exact ih y_4 y11 f_aside f_weights f_paid hs
        · replace hs := vi_f hs c10
          refine g_aload_n (pl := 3) C dX9_season_168 rfl rfl ?_
          refine g_aload_n (pl := 3) C dX9_season_169 rfl rfl ?_
          refine g_get C fX9_19 0 rfl rfl dX9_season_170 ?_
          refine g_iload (pl := 0) C dX9_season_173 rfl ?_
          refine g_iload (pl := 1) C dX9_season_175 rfl ?_
          refine g_bipush (v := (nI 8)) C dX9_season_177 rfl ?_
          refine g_idiv C dX9_season_179 (by decide) ?_
          refine g_aload_n (pl := 3) C dX9_season_180 rfl rfl ?_
          obtain ⟨z12, e_z12, hs⟩ := vb_ok hs
          refine g_callV (ws' := [oX9 h a_post a_read a_now a_aside a_past f_undos a_kept f_keptMany a_sights f_sightMany a_text f_size f_at f_value a_weights a_tried f_above f_below f_paid a_row a_who a_order a_bestOrder a_costs a_taken, aI cI a_post 52 f_post, aI cI a_now 50 f_now, aI cI a_aside 50 f_aside, aI cI a_weights 8 f_weights]) (rest := [.int (y5 / (nI 8)), .int y7, .ref a_aside, .ref h]) (st' := [.int z12, .int (y5 / (nI 8)), .int y7, .ref a_aside, .ref h]) C mX9_152 q5_53 [] (fun l D => cX9_signs_ct l D cI h a_post a_read a_now a_aside a_past a_kept a_sights a_text a_weights a_tried a_row a_who a_order a_bestOrder a_costs a_taken f_undos f_keptMany f_sightMany f_size f_at f_value f_above f_below f_paid f_post e_z12) ⟨⟨rfl, rfl⟩, Nat.le_of_ble_eq_true rfl, Nat.le_of_ble_eq_true rfl⟩ 0 rfl rfl rfl [0, 1] rfl rfl rfl rfl rfl (Nat.le_of_ble_eq_true rfl) (Nat.zero_le _) (Nat.zero_le _) rfl dX9_season_181 ?_
          obtain ⟨b13, hs⟩ := vg_ok hs
          refine g_irem C dX9_season_184 (of_decide_eq_true b13) ?_
          obtain ⟨z14, e_z14, hs⟩ := vb_ok hs
          refine g_callV (ws' := [oX9 h a_post a_read a_now a_aside a_past f_undos a_kept f_keptMany a_sights f_sightMany a_text f_size f_at f_value a_weights a_tried f_above f_below f_paid a_row a_who a_order a_bestOrder a_costs a_taken, aI cI a_post 52 f_post, aI cI a_now 50 f_now, aI cI a_aside 50 z14.2, aI cI a_weights 8 f_weights]) (rest := []) (st' := [.int z14.1]) C mX9_220 q5_132 [.ref a_aside, .int y7, .int ((y5 / (nI 8)) - (y5 / (nI 8)) / z12 * z12)] (fun l D => cX9_shows_ct l D cI h a_post a_read a_now a_aside a_past a_kept a_sights a_text a_weights a_tried a_row a_who a_order a_bestOrder a_costs a_taken a_aside f_undos f_keptMany f_sightMany f_size f_at f_value f_above f_below f_paid f_post f_aside y7 ((y5 / (nI 8)) - (y5 / (nI 8)) / z12 * z12) e_z14) ⟨⟨rfl, rfl⟩, Nat.le_of_ble_eq_true rfl, Nat.le_of_ble_eq_true rfl⟩ 0 rfl rfl rfl [0, 1, 3] rfl rfl rfl rfl rfl (Nat.le_of_ble_eq_true rfl) (Nat.zero_le _) (Nat.zero_le _) rfl dX9_season_185 ?_
          refine g_istore (lv' := [(10, .int z14.1), (9, .int y7), (8, .int y5), (6, .long y4), (0, .ref h), (1, .int y_1), (2, .int y_2), (3, .int y_3), (4, .int y_4), (5, .int y_5)]) C dX9_season_188 (by decide) rfl ?_
          obtain ⟨y15, e_y15, hs⟩ := vlet_ex hs
          refine g_iinc (pl := 9) (lv' := [(5, .int y15), (10, .int z14.1), (9, .int y7), (8, .int y5), (6, .long y4), (0, .ref h), (1, .int y_1), (2, .int y_2), (3, .int y_3), (4, .int y_4)]) C dX9_season_190 rfl e_y15.symm (by decide) rfl ?_
          refine g_goto (tgt := 57) C dX9_season_193 (by decide) ?_
          refine g_sub [5, 6, 7, 8, 9, 0] rfl ?_
          exact ih y_4 y15 z14.2 f_weights f_paid hs
      · replace hs := vi_t hs c8
        refine g_aload_n (pl := 3) C dX9_season_119 rfl rfl ?_
        refine g_get C fX9_19 0 rfl rfl dX9_season_120 ?_
        refine g_bipush (v := (nI 20)) C dX9_season_123 rfl ?_
        refine g_iload (pl := 0) C dX9_season_125 rfl ?_
        refine g_iadd C dX9_season_127 ?_
        obtain ⟨b16, hs⟩ := vg_ok hs
        refine g_iald C 3 rfl (vin_ok b16) dX9_season_128 ?_
        refine g_if_ne (tgt := 190) C dX9_season_129 (by decide) (fun c17 => ?_) (fun c17 => ?_)
        · replace hs := vi_f hs c17
          obtain ⟨y18, e_y18, hs⟩ := vlet_ex hs
          refine g_iinc (pl := 8) (lv' := [(5, .int y18), (9, .int y7), (8, .int y5), (6, .long y4), (0, .ref h), (1, .int y_1), (2, .int y_2), (3, .int y_3), (4, .int y_4)]) C dX9_season_190 rfl e_y18.symm (by decide) rfl ?_
          refine g_goto (tgt := 57) C dX9_season_193 (by decide) ?_
          refine g_sub [4, 5, 6, 7, 8, 0] rfl ?_
          exact ih y_4 y18 f_aside f_weights f_paid hs
        · replace hs := vi_t hs c17
          refine g_aload_n (pl := 3) C dX9_season_132 rfl rfl ?_
          refine g_aload_n (pl := 3) C dX9_season_133 rfl rfl ?_
          refine g_get C fX9_19 0 rfl rfl dX9_season_134 ?_
          refine g_iload (pl := 0) C dX9_season_137 rfl ?_
          obtain ⟨z19, e_z19, hs⟩ := vb_ok hs
          refine g_callV (ws' := [oX9 h a_post a_read a_now a_aside a_past f_undos a_kept f_keptMany a_sights f_sightMany a_text f_size f_at f_value a_weights a_tried f_above f_below z19.2.2.1 a_row a_who a_order a_bestOrder a_costs a_taken, aI cI a_post 52 f_post, aI cI a_now 50 f_now, aI cI a_aside 50 z19.2.2.2, aI cI a_weights 8 z19.2.1]) (rest := []) (st' := [.int z19.1]) C mX9_230 q5_140 [.ref a_aside, .int y7] (fun l D => cX9_guesses_ct l D cI h a_post a_read a_now a_aside a_past a_kept a_sights a_text a_weights a_tried a_row a_who a_order a_bestOrder a_costs a_taken a_aside f_undos f_keptMany f_sightMany f_size f_at f_value f_above f_below f_paid f_post f_weights f_aside y7 e_z19) ⟨⟨rfl, rfl⟩, Nat.le_of_ble_eq_true rfl, Nat.le_of_ble_eq_true rfl⟩ 0 rfl rfl rfl [0, 1, 4, 3] rfl rfl rfl rfl rfl (Nat.le_of_ble_eq_true rfl) (Nat.zero_le _) (Nat.zero_le _) rfl dX9_season_139 ?_
          refine g_istore (lv' := [(10, .int z19.1), (9, .int y7), (8, .int y5), (6, .long y4), (0, .ref h), (1, .int y_1), (2, .int y_2), (3, .int y_3), (4, .int y_4), (5, .int y_5)]) C dX9_season_142 (by decide) rfl ?_
          refine g_iload (pl := 8) C dX9_season_144 rfl ?_
          refine g_aload_n (pl := 4) C dX9_season_146 rfl rfl ?_
          refine g_get C fX9_224 0 rfl rfl dX9_season_147 ?_
          refine g_iadd C dX9_season_150 ?_
          obtain ⟨y20, e_y20, hs⟩ := vlet_ex hs
          refine g_topi e_y20 ?_
          refine g_istore (lv' := [(4, .int y20), (10, .int z19.1), (9, .int y7), (8, .int y5), (6, .long y4), (0, .ref h), (1, .int y_1), (2, .int y_2), (3, .int y_3), (5, .int y_5)]) C dX9_season_151 (by decide) rfl ?_
          refine g_goto (tgt := 190) C dX9_season_153 (by decide) ?_
          obtain ⟨y21, e_y21, hs⟩ := vlet_ex hs
          refine g_iinc (pl := 9) (lv' := [(5, .int y21), (4, .int y20), (10, .int z19.1), (9, .int y7), (8, .int y5), (6, .long y4), (0, .ref h), (1, .int y_1), (2, .int y_2), (3, .int y_3)]) C dX9_season_190 rfl e_y21.symm (by decide) rfl ?_
          refine g_goto (tgt := 57) C dX9_season_193 (by decide) ?_
          refine g_sub [6, 7, 8, 9, 1, 0] rfl ?_
          exact ih y20 y21 z19.2.2.2 z19.2.1 z19.2.2.1 hs
set_option maxHeartbeats 4000000 in
set_option maxRecDepth 100000 in
theorem cX9_season_ct (l : Launch) (D : va_G) (cI : ClassId) (h : Nat) (a_post : Nat) (a_read : Nat) (a_now : Nat) (a_aside : Nat) (a_past : Nat) (a_kept : Nat) (a_sights : Nat) (a_text : Nat) (a_weights : Nat) (a_tried : Nat) (a_row : Nat) (a_who : Nat) (a_order : Nat) (a_bestOrder : Nat) (a_costs : Nat) (a_taken : Nat) (f_undos : Int32) (f_keptMany : Int32) (f_sightMany : Int32) (f_size : Int32) (f_at : Int32) (f_value : Int32) (f_above : Int64) (f_below : Int64) (f_paid : Int32) (f_post : Nat → Int32) (f_now : Nat → Int32) (f_aside : Nat → Int32) (f_weights : Nat → Int32) (x1 : Int32) (x2 : Int32) (x3 : Int32) {z : Int32 × (Nat → Int32) × (Nat → Int32) × Int32} (hs : sX9_season f_post f_now f_aside f_weights f_paid x1 x2 x3 = some z) : ct l yX9_season (.code yX9_season cX9_season 11 (some .int) :: gtb) rmX9_season D cI [.ref h, .int x1, .int x2, .int x3] [oX9 h a_post a_read a_now a_aside a_past f_undos a_kept f_keptMany a_sights f_sightMany a_text f_size f_at f_value a_weights a_tried f_above f_below f_paid a_row a_who a_order a_bestOrder a_costs a_taken, aI cI a_post 52 f_post, aI cI a_now 50 f_now, aI cI a_aside 50 f_aside, aI cI a_weights 8 f_weights] (some (.int z.1)) [oX9 h a_post a_read a_now a_aside a_past f_undos a_kept f_keptMany a_sights f_sightMany a_text f_size f_at f_value a_weights a_tried f_above f_below z.2.2.2 a_row a_who a_order a_bestOrder a_costs a_taken, aI cI a_post 52 f_post, aI cI a_now 50 f_now, aI cI a_aside 50 z.2.1, aI cI a_weights 8 z.2.2.1] := by
  refine ct_ofI (own := RX9) (by decide +kernel) rfl (Nat.le_of_ble_eq_true rfl) (fun X C hD hR => ?_)
  unfold sX9_season at hs
  show gg cI X 11 0 0 [oX9 h a_post a_read a_now a_aside a_past f_undos a_kept f_keptMany a_sights f_sightMany a_text f_size f_at f_value a_weights a_tried f_above f_below f_paid a_row a_who a_order a_bestOrder a_costs a_taken, aI cI a_post 52 f_post, aI cI a_now 50 f_now, aI cI a_aside 50 f_aside, aI cI a_weights 8 f_weights] [(0, .ref h), (1, .int x1), (2, .int x2), (3, .int x3)] 0 []
  refine g_iload_n (pl := 1) C dX9_season_0 rfl rfl ?_
  refine g_i2l C dX9_season_1 ?_
  refine g_lconst (v := (lN 0)) C dX9_season_2 rfl ?_
  refine g_ldc2 (v := (lN 9999)) C q6_10 dX9_season_3 ?_
  obtain ⟨z22, e_z22, hs⟩ := vb_ok hs
  refine g_callS (ws' := [oX9 h a_post a_read a_now a_aside a_past f_undos a_kept f_keptMany a_sights f_sightMany a_text f_size f_at f_value a_weights a_tried f_above f_below f_paid a_row a_who a_order a_bestOrder a_costs a_taken, aI cI a_post 52 f_post, aI cI a_now 50 f_now, aI cI a_aside 50 f_aside, aI cI a_weights 8 f_weights]) (rest := []) (st' := [.int z22]) C mX9_82 q4_199 [.long (Int32.toInt64 x1), .long (lN 0), .long (lN 9999)] (fun l D => cX9_in_ct l D cI (Int32.toInt64 x1) (lN 0) (lN 9999) e_z22) ⟨⟨rfl, rfl⟩, Nat.le_of_ble_eq_true rfl, Nat.le_of_ble_eq_true rfl⟩ rfl [] rfl rfl rfl rfl rfl (Nat.le_of_ble_eq_true rfl) (Nat.zero_le _) (Nat.zero_le _) rfl dX9_season_6 ?_
  refine g_if_eq (tgt := 34) C dX9_season_9 (by decide) (fun c23 => ?_) (fun c23 => ?_)
  · replace hs := vi_t hs c23
    refine g_iconst (v := (-1)) C dX9_season_34 rfl ?_
    cases hs
    exact hR _ _ dX9_season_35
  · replace hs := vi_f hs c23
    refine g_iload_n (pl := 2) C dX9_season_12 rfl rfl ?_
    refine g_i2l C dX9_season_13 ?_
    refine g_lconst (v := (lN 1)) C dX9_season_14 rfl ?_
    refine g_ldc2 (v := (lN 60)) C q6_11 dX9_season_15 ?_
    obtain ⟨z24, e_z24, hs⟩ := vb_ok hs
    refine g_callS (ws' := [oX9 h a_post a_read a_now a_aside a_past f_undos a_kept f_keptMany a_sights f_sightMany a_text f_size f_at f_value a_weights a_tried f_above f_below f_paid a_row a_who a_order a_bestOrder a_costs a_taken, aI cI a_post 52 f_post, aI cI a_now 50 f_now, aI cI a_aside 50 f_aside, aI cI a_weights 8 f_weights]) (rest := []) (st' := [.int z24]) C mX9_82 q4_199 [.long (Int32.toInt64 x2), .long (lN 1), .long (lN 60)] (fun l D => cX9_in_ct l D cI (Int32.toInt64 x2) (lN 1) (lN 60) e_z24) ⟨⟨rfl, rfl⟩, Nat.le_of_ble_eq_true rfl, Nat.le_of_ble_eq_true rfl⟩ rfl [] rfl rfl rfl rfl rfl (Nat.le_of_ble_eq_true rfl) (Nat.zero_le _) (Nat.zero_le _) rfl dX9_season_18 ?_
    refine g_if_eq (tgt := 34) C dX9_season_21 (by decide) (fun c25 => ?_) (fun c25 => ?_)
    · replace hs := vi_t hs c25
      refine g_iconst (v := (-1)) C dX9_season_34 rfl ?_
      cases hs
      exact hR _ _ dX9_season_35
    · replace hs := vi_f hs c25
      refine g_iload_n (pl := 3) C dX9_season_24 rfl rfl ?_
      refine g_i2l C dX9_season_25 ?_
      refine g_lconst (v := (lN 0)) C dX9_season_26 rfl ?_
      refine g_lconst (v := (lN 1)) C dX9_season_27 rfl ?_
      obtain ⟨z26, e_z26, hs⟩ := vb_ok hs
      refine g_callS (ws' := [oX9 h a_post a_read a_now a_aside a_past f_undos a_kept f_keptMany a_sights f_sightMany a_text f_size f_at f_value a_weights a_tried f_above f_below f_paid a_row a_who a_order a_bestOrder a_costs a_taken, aI cI a_post 52 f_post, aI cI a_now 50 f_now, aI cI a_aside 50 f_aside, aI cI a_weights 8 f_weights]) (rest := []) (st' := [.int z26]) C mX9_82 q4_199 [.long (Int32.toInt64 x3), .long (lN 0), .long (lN 1)] (fun l D => cX9_in_ct l D cI (Int32.toInt64 x3) (lN 0) (lN 1) e_z26) ⟨⟨rfl, rfl⟩, Nat.le_of_ble_eq_true rfl, Nat.le_of_ble_eq_true rfl⟩ rfl [] rfl rfl rfl rfl rfl (Nat.le_of_ble_eq_true rfl) (Nat.zero_le _) (Nat.zero_le _) rfl dX9_season_28 ?_
      refine g_if_ne (tgt := 36) C dX9_season_31 (by decide) (fun c27 => ?_) (fun c27 => ?_)
      · replace hs := vi_f hs c27
        refine g_aload_n (pl := 0) C dX9_season_36 rfl rfl ?_
        refine g_get C fX9_16 0 rfl rfl dX9_season_37 ?_
        refine g_iconst (v := (nI 0)) C dX9_season_40 rfl ?_
        refine g_aload_n (pl := 0) C dX9_season_41 rfl rfl ?_
        refine g_get C fX9_19 0 rfl rfl dX9_season_42 ?_
        refine g_iconst (v := (nI 0)) C dX9_season_45 rfl ?_
        refine g_bipush (v := (nI 50)) C dX9_season_46 rfl ?_
        obtain ⟨z28, e_z28, hs⟩ := vb_ok hs
        refine g_callS (ws' := [oX9 h a_post a_read a_now a_aside a_past f_undos a_kept f_keptMany a_sights f_sightMany a_text f_size f_at f_value a_weights a_tried f_above f_below f_paid a_row a_who a_order a_bestOrder a_costs a_taken, aI cI a_post 52 f_post, aI cI a_now 50 f_now, aI cI a_aside 50 z28, aI cI a_weights 8 f_weights]) (rest := []) (st' := []) C mX9_148 q5_29 [.ref a_now, .int (nI 0), .ref a_aside, .int (nI 0), .int (nI 50)] (fun l D => cX9_copies_ct l D cI a_now a_aside 50 50 f_now f_aside (nI 0) (nI 0) (nI 50) e_z28) ⟨⟨rfl, rfl⟩, Nat.le_of_ble_eq_true rfl, Nat.le_of_ble_eq_true rfl⟩ rfl [2, 3] rfl rfl rfl rfl rfl (Nat.le_of_ble_eq_true rfl) (Nat.zero_le _) (Nat.zero_le _) rfl dX9_season_48 ?_
        refine g_iconst (v := (nI 0)) C dX9_season_51 rfl ?_
        refine g_istore (lv' := [(4, .int (nI 0)), (0, .ref h), (1, .int x1), (2, .int x2), (3, .int x3)]) C dX9_season_52 (by decide) rfl ?_
        refine g_iconst (v := (nI 0)) C dX9_season_54 rfl ?_
        refine g_istore (lv' := [(5, .int (nI 0)), (4, .int (nI 0)), (0, .ref h), (1, .int x1), (2, .int x2), (3, .int x3)]) C dX9_season_55 (by decide) rfl ?_
        refine g_sub [2, 3, 4, 5, 1, 0] rfl ?_
        exact LX9_season_57_w C h a_post a_read a_now a_aside a_past a_kept a_sights a_text a_weights a_tried a_row a_who a_order a_bestOrder a_costs a_taken f_undos f_keptMany f_sightMany f_size f_at f_value f_above f_below f_post f_now x1 x2 x3 hR _ (nI 0) (nI 0) z28 f_weights f_paid hs
      · replace hs := vi_t hs c27
        refine g_iconst (v := (-1)) C dX9_season_34 rfl ?_
        cases hs
        exact hR _ _ dX9_season_35
def sX9_keep (f_now : Nat → Int32) (f_kept : Nat → Int32) (f_keptMany : Int32) : Option (Int32 × (Nat → Int32) × Int32) :=
  vi (f_keptMany = (nI 2)) inferInstance (
    some ((-3), f_kept, f_keptMany)) (
    vb (sX9_copies 50 100 f_now f_kept (nI 0) ((nI 50) * f_keptMany) (nI 50)) fun z2 =>
    vlet (f_keptMany + (nI 1)) fun y3 =>
    some (y3, z2, y3))
abbrev rmX9_keep : Room := { frames := 1, cells := 0, slots := 0, locals := 25 }
set_option maxHeartbeats 4000000 in
set_option maxRecDepth 100000 in
theorem cX9_keep_ct (l : Launch) (D : va_G) (cI : ClassId) (h : Nat) (a_post : Nat) (a_read : Nat) (a_now : Nat) (a_aside : Nat) (a_past : Nat) (a_kept : Nat) (a_sights : Nat) (a_text : Nat) (a_weights : Nat) (a_tried : Nat) (a_row : Nat) (a_who : Nat) (a_order : Nat) (a_bestOrder : Nat) (a_costs : Nat) (a_taken : Nat) (f_undos : Int32) (f_keptMany : Int32) (f_sightMany : Int32) (f_size : Int32) (f_at : Int32) (f_value : Int32) (f_above : Int64) (f_below : Int64) (f_paid : Int32) (f_now : Nat → Int32) (f_kept : Nat → Int32) {z : Int32 × (Nat → Int32) × Int32} (hs : sX9_keep f_now f_kept f_keptMany = some z) : ct l yX9_keep (.code yX9_keep cX9_keep 1 (some .int) :: gtb) rmX9_keep D cI [.ref h] [oX9 h a_post a_read a_now a_aside a_past f_undos a_kept f_keptMany a_sights f_sightMany a_text f_size f_at f_value a_weights a_tried f_above f_below f_paid a_row a_who a_order a_bestOrder a_costs a_taken, aI cI a_now 50 f_now, aI cI a_kept 100 f_kept] (some (.int z.1)) [oX9 h a_post a_read a_now a_aside a_past f_undos a_kept z.2.2 a_sights f_sightMany a_text f_size f_at f_value a_weights a_tried f_above f_below f_paid a_row a_who a_order a_bestOrder a_costs a_taken, aI cI a_now 50 f_now, aI cI a_kept 100 z.2.1] := by
  refine ct_ofI (own := RX9) (by decide +kernel) rfl (Nat.le_of_ble_eq_true rfl) (fun X C hD hR => ?_)
  unfold sX9_keep at hs
  show gg cI X 1 0 0 [oX9 h a_post a_read a_now a_aside a_past f_undos a_kept f_keptMany a_sights f_sightMany a_text f_size f_at f_value a_weights a_tried f_above f_below f_paid a_row a_who a_order a_bestOrder a_costs a_taken, aI cI a_now 50 f_now, aI cI a_kept 100 f_kept] [(0, .ref h)] 0 []
  refine g_aload_n (pl := 0) C dX9_keep_0 rfl rfl ?_
  refine g_get C fX9_72 0 rfl rfl dX9_keep_1 ?_
  refine g_iconst (v := (nI 2)) C dX9_keep_4 rfl ?_
  refine g_icmp_ne (tgt := 11) C dX9_keep_5 (by decide) (fun c1 => ?_) (fun c1 => ?_)
  · replace hs := vi_f hs c1
    refine g_aload_n (pl := 0) C dX9_keep_11 rfl rfl ?_
    refine g_get C fX9_16 0 rfl rfl dX9_keep_12 ?_
    refine g_iconst (v := (nI 0)) C dX9_keep_15 rfl ?_
    refine g_aload_n (pl := 0) C dX9_keep_16 rfl rfl ?_
    refine g_get C fX9_25 0 rfl rfl dX9_keep_17 ?_
    refine g_bipush (v := (nI 50)) C dX9_keep_20 rfl ?_
    refine g_aload_n (pl := 0) C dX9_keep_22 rfl rfl ?_
    refine g_get C fX9_72 0 rfl rfl dX9_keep_23 ?_
    refine g_imul C dX9_keep_26 ?_
    refine g_bipush (v := (nI 50)) C dX9_keep_27 rfl ?_
    obtain ⟨z2, e_z2, hs⟩ := vb_ok hs
    refine g_callS (ws' := [oX9 h a_post a_read a_now a_aside a_past f_undos a_kept f_keptMany a_sights f_sightMany a_text f_size f_at f_value a_weights a_tried f_above f_below f_paid a_row a_who a_order a_bestOrder a_costs a_taken, aI cI a_now 50 f_now, aI cI a_kept 100 z2]) (rest := []) (st' := []) C mX9_148 q5_29 [.ref a_now, .int (nI 0), .ref a_kept, .int ((nI 50) * f_keptMany), .int (nI 50)] (fun l D => cX9_copies_ct l D cI a_now a_kept 50 100 f_now f_kept (nI 0) ((nI 50) * f_keptMany) (nI 50) e_z2) ⟨⟨rfl, rfl⟩, Nat.le_of_ble_eq_true rfl, Nat.le_of_ble_eq_true rfl⟩ rfl [1, 2] rfl rfl rfl rfl rfl (Nat.le_of_ble_eq_true rfl) (Nat.zero_le _) (Nat.zero_le _) rfl dX9_keep_29 ?_
    refine g_aload_n (pl := 0) C dX9_keep_32 rfl rfl ?_
    refine g_dup C dX9_keep_33 rfl ?_
    refine g_get C fX9_72 0 rfl rfl dX9_keep_34 ?_
    refine g_iconst (v := (nI 1)) C dX9_keep_37 rfl ?_
    refine g_iadd C dX9_keep_38 ?_
    obtain ⟨y3, e_y3, hs⟩ := vlet_ex hs
    refine g_topi e_y3 ?_
    refine g_putI (ws' := [oX9 h a_post a_read a_now a_aside a_past f_undos a_kept y3 a_sights f_sightMany a_text f_size f_at f_value a_weights a_tried f_above f_below f_paid a_row a_who a_order a_bestOrder a_costs a_taken, aI cI a_now 50 f_now, aI cI a_kept 100 z2]) C fX9_72 0 rfl (Nat.le_of_ble_eq_true rfl) rfl dX9_keep_39 ?_
    refine g_aload_n (pl := 0) C dX9_keep_42 rfl rfl ?_
    refine g_get C fX9_72 0 rfl rfl dX9_keep_43 ?_
    cases hs
    exact hR _ _ dX9_keep_46
  · replace hs := vi_t hs c1
    refine g_bipush (v := (-3)) C dX9_keep_8 rfl ?_
    cases hs
    exact hR _ _ dX9_keep_10
def sX9_back (f_now : Nat → Int32) (f_undos : Int32) (f_kept : Nat → Int32) (f_keptMany : Int32) : Option (Int32 × (Nat → Int32) × Int32 × Int32) :=
  vi (f_keptMany = 0) inferInstance (
    some ((-2), f_now, f_undos, f_keptMany)) (
    vlet (f_keptMany - (nI 1)) fun y2 =>
    vb (sX9_copies 100 50 f_kept f_now ((nI 50) * y2) (nI 0) (nI 50)) fun z3 =>
    some (y2, z3, (nI 0), y2))
abbrev rmX9_back : Room := { frames := 1, cells := 0, slots := 0, locals := 25 }
set_option maxHeartbeats 4000000 in
set_option maxRecDepth 100000 in
theorem cX9_back_ct (l : Launch) (D : va_G) (cI : ClassId) (h : Nat) (a_post : Nat) (a_read : Nat) (a_now : Nat) (a_aside : Nat) (a_past : Nat) (a_kept : Nat) (a_sights : Nat) (a_text : Nat) (a_weights : Nat) (a_tried : Nat) (a_row : Nat) (a_who : Nat) (a_order : Nat) (a_bestOrder : Nat) (a_costs : Nat) (a_taken : Nat) (f_undos : Int32) (f_keptMany : Int32) (f_sightMany : Int32) (f_size : Int32) (f_at : Int32) (f_value : Int32) (f_above : Int64) (f_below : Int64) (f_paid : Int32) (f_now : Nat → Int32) (f_kept : Nat → Int32) {z : Int32 × (Nat → Int32) × Int32 × Int32} (hs : sX9_back f_now f_undos f_kept f_keptMany = some z) : ct l yX9_back (.code yX9_back cX9_back 1 (some .int) :: gtb) rmX9_back D cI [.ref h] [oX9 h a_post a_read a_now a_aside a_past f_undos a_kept f_keptMany a_sights f_sightMany a_text f_size f_at f_value a_weights a_tried f_above f_below f_paid a_row a_who a_order a_bestOrder a_costs a_taken, aI cI a_now 50 f_now, aI cI a_kept 100 f_kept] (some (.int z.1)) [oX9 h a_post a_read a_now a_aside a_past z.2.2.1 a_kept z.2.2.2 a_sights f_sightMany a_text f_size f_at f_value a_weights a_tried f_above f_below f_paid a_row a_who a_order a_bestOrder a_costs a_taken, aI cI a_now 50 z.2.1, aI cI a_kept 100 f_kept] := by
  refine ct_ofI (own := RX9) (by decide +kernel) rfl (Nat.le_of_ble_eq_true rfl) (fun X C hD hR => ?_)
  unfold sX9_back at hs
  show gg cI X 1 0 0 [oX9 h a_post a_read a_now a_aside a_past f_undos a_kept f_keptMany a_sights f_sightMany a_text f_size f_at f_value a_weights a_tried f_above f_below f_paid a_row a_who a_order a_bestOrder a_costs a_taken, aI cI a_now 50 f_now, aI cI a_kept 100 f_kept] [(0, .ref h)] 0 []
  refine g_aload_n (pl := 0) C dX9_back_0 rfl rfl ?_
  refine g_get C fX9_72 0 rfl rfl dX9_back_1 ?_
  refine g_if_ne (tgt := 10) C dX9_back_4 (by decide) (fun c1 => ?_) (fun c1 => ?_)
  · replace hs := vi_f hs c1
    refine g_aload_n (pl := 0) C dX9_back_10 rfl rfl ?_
    refine g_dup C dX9_back_11 rfl ?_
    refine g_get C fX9_72 0 rfl rfl dX9_back_12 ?_
    refine g_iconst (v := (nI 1)) C dX9_back_15 rfl ?_
    refine g_isub C dX9_back_16 ?_
    obtain ⟨y2, e_y2, hs⟩ := vlet_ex hs
    refine g_topi e_y2 ?_
    refine g_putI (ws' := [oX9 h a_post a_read a_now a_aside a_past f_undos a_kept y2 a_sights f_sightMany a_text f_size f_at f_value a_weights a_tried f_above f_below f_paid a_row a_who a_order a_bestOrder a_costs a_taken, aI cI a_now 50 f_now, aI cI a_kept 100 f_kept]) C fX9_72 0 rfl (Nat.le_of_ble_eq_true rfl) rfl dX9_back_17 ?_
    refine g_aload_n (pl := 0) C dX9_back_20 rfl rfl ?_
    refine g_get C fX9_25 0 rfl rfl dX9_back_21 ?_
    refine g_bipush (v := (nI 50)) C dX9_back_24 rfl ?_
    refine g_aload_n (pl := 0) C dX9_back_26 rfl rfl ?_
    refine g_get C fX9_72 0 rfl rfl dX9_back_27 ?_
    refine g_imul C dX9_back_30 ?_
    refine g_aload_n (pl := 0) C dX9_back_31 rfl rfl ?_
    refine g_get C fX9_16 0 rfl rfl dX9_back_32 ?_
    refine g_iconst (v := (nI 0)) C dX9_back_35 rfl ?_
    refine g_bipush (v := (nI 50)) C dX9_back_36 rfl ?_
    obtain ⟨z3, e_z3, hs⟩ := vb_ok hs
    refine g_callS (ws' := [oX9 h a_post a_read a_now a_aside a_past f_undos a_kept y2 a_sights f_sightMany a_text f_size f_at f_value a_weights a_tried f_above f_below f_paid a_row a_who a_order a_bestOrder a_costs a_taken, aI cI a_now 50 z3, aI cI a_kept 100 f_kept]) (rest := []) (st' := []) C mX9_148 q5_29 [.ref a_kept, .int ((nI 50) * y2), .ref a_now, .int (nI 0), .int (nI 50)] (fun l D => cX9_copies_ct l D cI a_kept a_now 100 50 f_kept f_now ((nI 50) * y2) (nI 0) (nI 50) e_z3) ⟨⟨rfl, rfl⟩, Nat.le_of_ble_eq_true rfl, Nat.le_of_ble_eq_true rfl⟩ rfl [2, 1] rfl rfl rfl rfl rfl (Nat.le_of_ble_eq_true rfl) (Nat.zero_le _) (Nat.zero_le _) rfl dX9_back_38 ?_
    refine g_aload_n (pl := 0) C dX9_back_41 rfl rfl ?_
    refine g_iconst (v := (nI 0)) C dX9_back_42 rfl ?_
    refine g_putI (ws' := [oX9 h a_post a_read a_now a_aside a_past (nI 0) a_kept y2 a_sights f_sightMany a_text f_size f_at f_value a_weights a_tried f_above f_below f_paid a_row a_who a_order a_bestOrder a_costs a_taken, aI cI a_now 50 z3, aI cI a_kept 100 f_kept]) C fX9_68 0 rfl (Nat.le_of_ble_eq_true rfl) rfl dX9_back_43 ?_
    refine g_aload_n (pl := 0) C dX9_back_46 rfl rfl ?_
    refine g_get C fX9_72 0 rfl rfl dX9_back_47 ?_
    cases hs
    exact hR _ _ dX9_back_50
  · replace hs := vi_t hs c1
    refine g_bipush (v := (-2)) C dX9_back_7 rfl ?_
    cases hs
    exact hR _ _ dX9_back_9
def LX9_shownInAll_4 (f_now : Nat → Int32) : Nat → Int32 → Int32 → Option (Int32)
  | 0, _, _ => none
  | n + 1, y_1, y_2 =>
    vi ((nI 5) ≤ y_2) inferInstance (
      some (y_1)) (
      vg (vin ((nI 10) + y_2) 50) (
      vlet (y_1 + (f_now (Int32.toNatClampNeg ((nI 10) + y_2)))) fun y3 =>
      vlet (y_2 + (nI 1)) fun y4 =>
      LX9_shownInAll_4 f_now n y3 y4))
def sX9_shownInAll (f_now : Nat → Int32) : Option (Int32) :=
  LX9_shownInAll_4 f_now vF (nI 0) (nI 0)
abbrev rmX9_shownInAll : Room := { frames := 0, cells := 0, slots := 0, locals := 0 }
set_option maxHeartbeats 4000000 in
set_option maxRecDepth 100000 in
theorem LX9_shownInAll_4_w {cI : ClassId} {X : xT} (C : cx cI X 3 cX9_shownInAll RX9 rmX9_shownInAll) (h : Nat) (a_post : Nat) (a_read : Nat) (a_now : Nat) (a_aside : Nat) (a_past : Nat) (a_kept : Nat) (a_sights : Nat) (a_text : Nat) (a_weights : Nat) (a_tried : Nat) (a_row : Nat) (a_who : Nat) (a_order : Nat) (a_bestOrder : Nat) (a_costs : Nat) (a_taken : Nat) (f_undos : Int32) (f_keptMany : Int32) (f_sightMany : Int32) (f_size : Int32) (f_at : Int32) (f_value : Int32) (f_above : Int64) (f_below : Int64) (f_paid : Int32) (f_now : Nat → Int32) {z : Int32} (hR : ∀ (lv : List (Nat × Value)) (pc : Nat), decode cX9_shownInAll pc = .ok (.ireturn, 1) → gg cI X 3 0 0 [oX9 h a_post a_read a_now a_aside a_past f_undos a_kept f_keptMany a_sights f_sightMany a_text f_size f_at f_value a_weights a_tried f_above f_below f_paid a_row a_who a_order a_bestOrder a_costs a_taken, aI cI a_now 50 f_now] lv pc [.int z]) : ∀ (n : Nat) (y_1 : Int32) (y_2 : Int32), LX9_shownInAll_4 f_now n y_1 y_2 = some z → gg cI X 3 0 0 [oX9 h a_post a_read a_now a_aside a_past f_undos a_kept f_keptMany a_sights f_sightMany a_text f_size f_at f_value a_weights a_tried f_above f_below f_paid a_row a_who a_order a_bestOrder a_costs a_taken, aI cI a_now 50 f_now] [(0, .ref h), (1, .int y_1), (2, .int y_2)] 4 [] := by
  intro n
  induction n with
  | zero =>
    intro y_1 y_2 hs
    exact nn_ok hs
  | succ n ih =>
    intro y_1 y_2 hs
    rw [LX9_shownInAll_4] at hs
    refine g_iload_n (pl := 2) C dX9_shownInAll_4 rfl rfl ?_
    refine g_iconst (v := (nI 5)) C dX9_shownInAll_5 rfl ?_
    refine g_icmp_ge (tgt := 27) C dX9_shownInAll_6 (by decide) (fun c1 => ?_) (fun c1 => ?_)
    · replace hs := vi_t hs c1
      refine g_iload_n (pl := 1) C dX9_shownInAll_27 rfl rfl ?_
      cases hs
      exact hR _ _ dX9_shownInAll_28
    · replace hs := vi_f hs c1
      refine g_iload_n (pl := 1) C dX9_shownInAll_9 rfl rfl ?_
      refine g_aload_n (pl := 0) C dX9_shownInAll_10 rfl rfl ?_
      refine g_get C fX9_16 0 rfl rfl dX9_shownInAll_11 ?_
      refine g_bipush (v := (nI 10)) C dX9_shownInAll_14 rfl ?_
      refine g_iload_n (pl := 2) C dX9_shownInAll_16 rfl rfl ?_
      refine g_iadd C dX9_shownInAll_17 ?_
      obtain ⟨b2, hs⟩ := vg_ok hs
      refine g_iald C 1 rfl (vin_ok b2) dX9_shownInAll_18 ?_
      refine g_iadd C dX9_shownInAll_19 ?_
      obtain ⟨y3, e_y3, hs⟩ := vlet_ex hs
      refine g_topi e_y3 ?_
      refine g_istore_n (lv' := [(1, .int y3), (0, .ref h), (2, .int y_2)]) C dX9_shownInAll_20 rfl (by decide) rfl ?_
      obtain ⟨y4, e_y4, hs⟩ := vlet_ex hs
      refine g_iinc (pl := 2) (lv' := [(2, .int y4), (1, .int y3), (0, .ref h)]) C dX9_shownInAll_21 rfl e_y4.symm (by decide) rfl ?_
      refine g_goto (tgt := 4) C dX9_shownInAll_24 (by decide) ?_
      refine g_sub [2, 1, 0] rfl ?_
      exact ih y3 y4 hs
set_option maxHeartbeats 4000000 in
set_option maxRecDepth 100000 in
theorem cX9_shownInAll_ct (l : Launch) (D : va_G) (cI : ClassId) (h : Nat) (a_post : Nat) (a_read : Nat) (a_now : Nat) (a_aside : Nat) (a_past : Nat) (a_kept : Nat) (a_sights : Nat) (a_text : Nat) (a_weights : Nat) (a_tried : Nat) (a_row : Nat) (a_who : Nat) (a_order : Nat) (a_bestOrder : Nat) (a_costs : Nat) (a_taken : Nat) (f_undos : Int32) (f_keptMany : Int32) (f_sightMany : Int32) (f_size : Int32) (f_at : Int32) (f_value : Int32) (f_above : Int64) (f_below : Int64) (f_paid : Int32) (f_now : Nat → Int32) {z : Int32} (hs : sX9_shownInAll f_now = some z) : ct l yX9_shownInAll (.code yX9_shownInAll cX9_shownInAll 3 (some .int) :: gtb) rmX9_shownInAll D cI [.ref h] [oX9 h a_post a_read a_now a_aside a_past f_undos a_kept f_keptMany a_sights f_sightMany a_text f_size f_at f_value a_weights a_tried f_above f_below f_paid a_row a_who a_order a_bestOrder a_costs a_taken, aI cI a_now 50 f_now] (some (.int z)) [oX9 h a_post a_read a_now a_aside a_past f_undos a_kept f_keptMany a_sights f_sightMany a_text f_size f_at f_value a_weights a_tried f_above f_below f_paid a_row a_who a_order a_bestOrder a_costs a_taken, aI cI a_now 50 f_now] := by
  refine ct_ofI (own := RX9) (by decide +kernel) rfl (Nat.le_of_ble_eq_true rfl) (fun X C hD hR => ?_)
  unfold sX9_shownInAll at hs
  show gg cI X 3 0 0 [oX9 h a_post a_read a_now a_aside a_past f_undos a_kept f_keptMany a_sights f_sightMany a_text f_size f_at f_value a_weights a_tried f_above f_below f_paid a_row a_who a_order a_bestOrder a_costs a_taken, aI cI a_now 50 f_now] [(0, .ref h)] 0 []
  refine g_iconst (v := (nI 0)) C dX9_shownInAll_0 rfl ?_
  refine g_istore_n (lv' := [(1, .int (nI 0)), (0, .ref h)]) C dX9_shownInAll_1 rfl (by decide) rfl ?_
  refine g_iconst (v := (nI 0)) C dX9_shownInAll_2 rfl ?_
  refine g_istore_n (lv' := [(2, .int (nI 0)), (1, .int (nI 0)), (0, .ref h)]) C dX9_shownInAll_3 rfl (by decide) rfl ?_
  refine g_sub [2, 1, 0] rfl ?_
  exact LX9_shownInAll_4_w C h a_post a_read a_now a_aside a_past a_kept a_sights a_text a_weights a_tried a_row a_who a_order a_bestOrder a_costs a_taken f_undos f_keptMany f_sightMany f_size f_at f_value f_above f_below f_paid f_now hR _ (nI 0) (nI 0) hs
def sX9_count (f_post : Nat → Int32) (f_now : Nat → Int32) (f_undos : Int32) (f_keptMany : Int32) (f_sightMany : Int32) (f_size : Int32) (x1 : Int32) : Option (Int32) :=
  vi (x1 = (nI 0)) inferInstance (
    some (f_post (Int32.toNatClampNeg (nI 0)))) (
    vi (x1 = (nI 1)) inferInstance (
      vb (sX9_signs f_post) fun z3 =>
      some (z3)) (
      vi (x1 = (nI 2)) inferInstance (
        some (f_post (Int32.toNatClampNeg (nI 2)))) (
        vi (x1 = (nI 3)) inferInstance (
          some (f_post (Int32.toNatClampNeg (nI 6)))) (
          vi (x1 = (nI 4)) inferInstance (
            vb (sX9_throughOf f_now (x1 - (nI 4)) (f_post (Int32.toNatClampNeg (nI 2)))) fun z7 =>
            some (z7)) (
            vi (x1 = (nI 5)) inferInstance (
              vb (sX9_throughOf f_now (x1 - (nI 4)) (f_post (Int32.toNatClampNeg (nI 2)))) fun z9 =>
              some (z9)) (
              vi (x1 = (nI 6)) inferInstance (
                vb (sX9_throughOf f_now (x1 - (nI 4)) (f_post (Int32.toNatClampNeg (nI 2)))) fun z11 =>
                some (z11)) (
                vi (x1 = (nI 7)) inferInstance (
                  vb (sX9_throughOf f_now (x1 - (nI 4)) (f_post (Int32.toNatClampNeg (nI 2)))) fun z13 =>
                  some (z13)) (
                  vi (x1 = (nI 8)) inferInstance (
                    vb (sX9_shownInAll f_now) fun z15 =>
                    some (z15)) (
                    vi (x1 = (nI 9)) inferInstance (
                      some (f_sightMany)) (
                      vi (x1 = (nI 10)) inferInstance (
                        some (f_undos)) (
                        vi (x1 = (nI 11)) inferInstance (
                          some (f_keptMany)) (
                          vi (x1 = (nI 12)) inferInstance (
                            some (f_size)) (
                            some ((-1)))))))))))))))
abbrev rmX9_count : Room := { frames := 1, cells := 0, slots := 0, locals := 24 }
set_option maxHeartbeats 4000000 in
set_option maxRecDepth 100000 in
theorem cX9_count_ct (l : Launch) (D : va_G) (cI : ClassId) (h : Nat) (a_post : Nat) (a_read : Nat) (a_now : Nat) (a_aside : Nat) (a_past : Nat) (a_kept : Nat) (a_sights : Nat) (a_text : Nat) (a_weights : Nat) (a_tried : Nat) (a_row : Nat) (a_who : Nat) (a_order : Nat) (a_bestOrder : Nat) (a_costs : Nat) (a_taken : Nat) (f_undos : Int32) (f_keptMany : Int32) (f_sightMany : Int32) (f_size : Int32) (f_at : Int32) (f_value : Int32) (f_above : Int64) (f_below : Int64) (f_paid : Int32) (f_post : Nat → Int32) (f_now : Nat → Int32) (x1 : Int32) {z : Int32} (hs : sX9_count f_post f_now f_undos f_keptMany f_sightMany f_size x1 = some z) : ct l yX9_count (.code yX9_count cX9_count 2 (some .int) :: gtb) rmX9_count D cI [.ref h, .int x1] [oX9 h a_post a_read a_now a_aside a_past f_undos a_kept f_keptMany a_sights f_sightMany a_text f_size f_at f_value a_weights a_tried f_above f_below f_paid a_row a_who a_order a_bestOrder a_costs a_taken, aI cI a_post 52 f_post, aI cI a_now 50 f_now] (some (.int z)) [oX9 h a_post a_read a_now a_aside a_past f_undos a_kept f_keptMany a_sights f_sightMany a_text f_size f_at f_value a_weights a_tried f_above f_below f_paid a_row a_who a_order a_bestOrder a_costs a_taken, aI cI a_post 52 f_post, aI cI a_now 50 f_now] := by
  refine ct_ofI (own := RX9) (by decide +kernel) rfl (Nat.le_of_ble_eq_true rfl) (fun X C hD hR => ?_)
  unfold sX9_count at hs
  show gg cI X 2 0 0 [oX9 h a_post a_read a_now a_aside a_past f_undos a_kept f_keptMany a_sights f_sightMany a_text f_size f_at f_value a_weights a_tried f_above f_below f_paid a_row a_who a_order a_bestOrder a_costs a_taken, aI cI a_post 52 f_post, aI cI a_now 50 f_now] [(0, .ref h), (1, .int x1)] 0 []
  refine g_iload_n (pl := 1) C dX9_count_0 rfl rfl ?_
  by_cases c1 : x1 = (nI 0)
  · replace hs := vi_t hs c1
    refine g_tableIn (tgt := 68) (off := 67) C dX9_count_1 (by rw [c1]; decide) (by rw [c1]; decide) (by rw [c1]; decide) (by decide) ?_
    refine g_aload_n (pl := 0) C dX9_count_68 rfl rfl ?_
    refine g_get C fX9_7 0 rfl rfl dX9_count_69 ?_
    refine g_iconst (v := (nI 0)) C dX9_count_72 rfl ?_
    refine g_iald C 1 rfl (vin_ok rfl) dX9_count_73 ?_
    cases hs
    exact hR _ _ dX9_count_74
  · replace hs := vi_f hs c1
    by_cases c2 : x1 = (nI 1)
    · replace hs := vi_t hs c2
      refine g_tableIn (tgt := 75) (off := 74) C dX9_count_1 (by rw [c2]; decide) (by rw [c2]; decide) (by rw [c2]; decide) (by decide) ?_
      refine g_aload_n (pl := 0) C dX9_count_75 rfl rfl ?_
      obtain ⟨z3, e_z3, hs⟩ := vb_ok hs
      refine g_callV (ws' := [oX9 h a_post a_read a_now a_aside a_past f_undos a_kept f_keptMany a_sights f_sightMany a_text f_size f_at f_value a_weights a_tried f_above f_below f_paid a_row a_who a_order a_bestOrder a_costs a_taken, aI cI a_post 52 f_post, aI cI a_now 50 f_now]) (rest := []) (st' := [.int z3]) C mX9_152 q5_53 [] (fun l D => cX9_signs_ct l D cI h a_post a_read a_now a_aside a_past a_kept a_sights a_text a_weights a_tried a_row a_who a_order a_bestOrder a_costs a_taken f_undos f_keptMany f_sightMany f_size f_at f_value f_above f_below f_paid f_post e_z3) ⟨⟨rfl, rfl⟩, Nat.le_of_ble_eq_true rfl, Nat.le_of_ble_eq_true rfl⟩ 0 rfl rfl rfl [0, 1] rfl rfl rfl rfl rfl (Nat.le_of_ble_eq_true rfl) (Nat.zero_le _) (Nat.zero_le _) rfl dX9_count_76 ?_
      cases hs
      exact hR _ _ dX9_count_79
    · replace hs := vi_f hs c2
      by_cases c4 : x1 = (nI 2)
      · replace hs := vi_t hs c4
        refine g_tableIn (tgt := 80) (off := 79) C dX9_count_1 (by rw [c4]; decide) (by rw [c4]; decide) (by rw [c4]; decide) (by decide) ?_
        refine g_aload_n (pl := 0) C dX9_count_80 rfl rfl ?_
        refine g_get C fX9_7 0 rfl rfl dX9_count_81 ?_
        refine g_iconst (v := (nI 2)) C dX9_count_84 rfl ?_
        refine g_iald C 1 rfl (vin_ok rfl) dX9_count_85 ?_
        cases hs
        exact hR _ _ dX9_count_86
      · replace hs := vi_f hs c4
        by_cases c5 : x1 = (nI 3)
        · replace hs := vi_t hs c5
          refine g_tableIn (tgt := 87) (off := 86) C dX9_count_1 (by rw [c5]; decide) (by rw [c5]; decide) (by rw [c5]; decide) (by decide) ?_
          refine g_aload_n (pl := 0) C dX9_count_87 rfl rfl ?_
          refine g_get C fX9_7 0 rfl rfl dX9_count_88 ?_
          refine g_bipush (v := (nI 6)) C dX9_count_91 rfl ?_
          refine g_iald C 1 rfl (vin_ok rfl) dX9_count_93 ?_
          cases hs
          exact hR _ _ dX9_count_94
        · replace hs := vi_f hs c5
          by_cases c6 : x1 = (nI 4)
          · replace hs := vi_t hs c6
            refine g_tableIn (tgt := 95) (off := 94) C dX9_count_1 (by rw [c6]; decide) (by rw [c6]; decide) (by rw [c6]; decide) (by decide) ?_
            refine g_aload_n (pl := 0) C dX9_count_95 rfl rfl ?_
            refine g_get C fX9_16 0 rfl rfl dX9_count_96 ?_
            refine g_iload_n (pl := 1) C dX9_count_99 rfl rfl ?_
            refine g_iconst (v := (nI 4)) C dX9_count_100 rfl ?_
            refine g_isub C dX9_count_101 ?_
            refine g_aload_n (pl := 0) C dX9_count_102 rfl rfl ?_
            refine g_get C fX9_7 0 rfl rfl dX9_count_103 ?_
            refine g_iconst (v := (nI 2)) C dX9_count_106 rfl ?_
            refine g_iald C 1 rfl (vin_ok rfl) dX9_count_107 ?_
            obtain ⟨z7, e_z7, hs⟩ := vb_ok hs
            refine g_callS (ws' := [oX9 h a_post a_read a_now a_aside a_past f_undos a_kept f_keptMany a_sights f_sightMany a_text f_size f_at f_value a_weights a_tried f_above f_below f_paid a_row a_who a_order a_bestOrder a_costs a_taken, aI cI a_post 52 f_post, aI cI a_now 50 f_now]) (rest := []) (st' := [.int z7]) C mX9_287 q6_18 [.ref a_now, .int (x1 - (nI 4)), .int (f_post (Int32.toNatClampNeg (nI 2)))] (fun l D => cX9_throughOf_ct l D cI a_now f_now (x1 - (nI 4)) (f_post (Int32.toNatClampNeg (nI 2))) e_z7) ⟨⟨rfl, rfl⟩, Nat.le_of_ble_eq_true rfl, Nat.le_of_ble_eq_true rfl⟩ rfl [2] rfl rfl rfl rfl rfl (Nat.le_of_ble_eq_true rfl) (Nat.zero_le _) (Nat.zero_le _) rfl dX9_count_108 ?_
            cases hs
            exact hR _ _ dX9_count_111
          · replace hs := vi_f hs c6
            by_cases c8 : x1 = (nI 5)
            · replace hs := vi_t hs c8
              refine g_tableIn (tgt := 95) (off := 94) C dX9_count_1 (by rw [c8]; decide) (by rw [c8]; decide) (by rw [c8]; decide) (by decide) ?_
              refine g_aload_n (pl := 0) C dX9_count_95 rfl rfl ?_
              refine g_get C fX9_16 0 rfl rfl dX9_count_96 ?_
              refine g_iload_n (pl := 1) C dX9_count_99 rfl rfl ?_
              refine g_iconst (v := (nI 4)) C dX9_count_100 rfl ?_
              refine g_isub C dX9_count_101 ?_
              refine g_aload_n (pl := 0) C dX9_count_102 rfl rfl ?_
              refine g_get C fX9_7 0 rfl rfl dX9_count_103 ?_
              refine g_iconst (v := (nI 2)) C dX9_count_106 rfl ?_
              refine g_iald C 1 rfl (vin_ok rfl) dX9_count_107 ?_
              obtain ⟨z9, e_z9, hs⟩ := vb_ok hs
              refine g_callS (ws' := [oX9 h a_post a_read a_now a_aside a_past f_undos a_kept f_keptMany a_sights f_sightMany a_text f_size f_at f_value a_weights a_tried f_above f_below f_paid a_row a_who a_order a_bestOrder a_costs a_taken, aI cI a_post 52 f_post, aI cI a_now 50 f_now]) (rest := []) (st' := [.int z9]) C mX9_287 q6_18 [.ref a_now, .int (x1 - (nI 4)), .int (f_post (Int32.toNatClampNeg (nI 2)))] (fun l D => cX9_throughOf_ct l D cI a_now f_now (x1 - (nI 4)) (f_post (Int32.toNatClampNeg (nI 2))) e_z9) ⟨⟨rfl, rfl⟩, Nat.le_of_ble_eq_true rfl, Nat.le_of_ble_eq_true rfl⟩ rfl [2] rfl rfl rfl rfl rfl (Nat.le_of_ble_eq_true rfl) (Nat.zero_le _) (Nat.zero_le _) rfl dX9_count_108 ?_
              cases hs
              exact hR _ _ dX9_count_111
            · replace hs := vi_f hs c8
              by_cases c10 : x1 = (nI 6)
              · replace hs := vi_t hs c10
                refine g_tableIn (tgt := 95) (off := 94) C dX9_count_1 (by rw [c10]; decide) (by rw [c10]; decide) (by rw [c10]; decide) (by decide) ?_
                refine g_aload_n (pl := 0) C dX9_count_95 rfl rfl ?_
                refine g_get C fX9_16 0 rfl rfl dX9_count_96 ?_
                refine g_iload_n (pl := 1) C dX9_count_99 rfl rfl ?_
                refine g_iconst (v := (nI 4)) C dX9_count_100 rfl ?_
                refine g_isub C dX9_count_101 ?_
                refine g_aload_n (pl := 0) C dX9_count_102 rfl rfl ?_
                refine g_get C fX9_7 0 rfl rfl dX9_count_103 ?_
                refine g_iconst (v := (nI 2)) C dX9_count_106 rfl ?_
                refine g_iald C 1 rfl (vin_ok rfl) dX9_count_107 ?_
                obtain ⟨z11, e_z11, hs⟩ := vb_ok hs
                refine g_callS (ws' := [oX9 h a_post a_read a_now a_aside a_past f_undos a_kept f_keptMany a_sights f_sightMany a_text f_size f_at f_value a_weights a_tried f_above f_below f_paid a_row a_who a_order a_bestOrder a_costs a_taken, aI cI a_post 52 f_post, aI cI a_now 50 f_now]) (rest := []) (st' := [.int z11]) C mX9_287 q6_18 [.ref a_now, .int (x1 - (nI 4)), .int (f_post (Int32.toNatClampNeg (nI 2)))] (fun l D => cX9_throughOf_ct l D cI a_now f_now (x1 - (nI 4)) (f_post (Int32.toNatClampNeg (nI 2))) e_z11) ⟨⟨rfl, rfl⟩, Nat.le_of_ble_eq_true rfl, Nat.le_of_ble_eq_true rfl⟩ rfl [2] rfl rfl rfl rfl rfl (Nat.le_of_ble_eq_true rfl) (Nat.zero_le _) (Nat.zero_le _) rfl dX9_count_108 ?_
                cases hs
                exact hR _ _ dX9_count_111
              · replace hs := vi_f hs c10
                by_cases c12 : x1 = (nI 7)
                · replace hs := vi_t hs c12
                  refine g_tableIn (tgt := 95) (off := 94) C dX9_count_1 (by rw [c12]; decide) (by rw [c12]; decide) (by rw [c12]; decide) (by decide) ?_
                  refine g_aload_n (pl := 0) C dX9_count_95 rfl rfl ?_
                  refine g_get C fX9_16 0 rfl rfl dX9_count_96 ?_
                  refine g_iload_n (pl := 1) C dX9_count_99 rfl rfl ?_
                  refine g_iconst (v := (nI 4)) C dX9_count_100 rfl ?_
                  refine g_isub C dX9_count_101 ?_
                  refine g_aload_n (pl := 0) C dX9_count_102 rfl rfl ?_
                  refine g_get C fX9_7 0 rfl rfl dX9_count_103 ?_
                  refine g_iconst (v := (nI 2)) C dX9_count_106 rfl ?_
                  refine g_iald C 1 rfl (vin_ok rfl) dX9_count_107 ?_
                  obtain ⟨z13, e_z13, hs⟩ := vb_ok hs
                  refine g_callS (ws' := [oX9 h a_post a_read a_now a_aside a_past f_undos a_kept f_keptMany a_sights f_sightMany a_text f_size f_at f_value a_weights a_tried f_above f_below f_paid a_row a_who a_order a_bestOrder a_costs a_taken, aI cI a_post 52 f_post, aI cI a_now 50 f_now]) (rest := []) (st' := [.int z13]) C mX9_287 q6_18 [.ref a_now, .int (x1 - (nI 4)), .int (f_post (Int32.toNatClampNeg (nI 2)))] (fun l D => cX9_throughOf_ct l D cI a_now f_now (x1 - (nI 4)) (f_post (Int32.toNatClampNeg (nI 2))) e_z13) ⟨⟨rfl, rfl⟩, Nat.le_of_ble_eq_true rfl, Nat.le_of_ble_eq_true rfl⟩ rfl [2] rfl rfl rfl rfl rfl (Nat.le_of_ble_eq_true rfl) (Nat.zero_le _) (Nat.zero_le _) rfl dX9_count_108 ?_
                  cases hs
                  exact hR _ _ dX9_count_111
                · replace hs := vi_f hs c12
                  by_cases c14 : x1 = (nI 8)
                  · replace hs := vi_t hs c14
                    refine g_tableIn (tgt := 112) (off := 111) C dX9_count_1 (by rw [c14]; decide) (by rw [c14]; decide) (by rw [c14]; decide) (by decide) ?_
                    refine g_aload_n (pl := 0) C dX9_count_112 rfl rfl ?_
                    obtain ⟨z15, e_z15, hs⟩ := vb_ok hs
                    refine g_callV (ws' := [oX9 h a_post a_read a_now a_aside a_past f_undos a_kept f_keptMany a_sights f_sightMany a_text f_size f_at f_value a_weights a_tried f_above f_below f_paid a_row a_who a_order a_bestOrder a_costs a_taken, aI cI a_post 52 f_post, aI cI a_now 50 f_now]) (rest := []) (st' := [.int z15]) C mX9_290 q6_34 [] (fun l D => cX9_shownInAll_ct l D cI h a_post a_read a_now a_aside a_past a_kept a_sights a_text a_weights a_tried a_row a_who a_order a_bestOrder a_costs a_taken f_undos f_keptMany f_sightMany f_size f_at f_value f_above f_below f_paid f_now e_z15) ⟨⟨rfl, rfl⟩, Nat.le_of_ble_eq_true rfl, Nat.le_of_ble_eq_true rfl⟩ 0 rfl rfl rfl [0, 2] rfl rfl rfl rfl rfl (Nat.le_of_ble_eq_true rfl) (Nat.zero_le _) (Nat.zero_le _) rfl dX9_count_113 ?_
                    cases hs
                    exact hR _ _ dX9_count_116
                  · replace hs := vi_f hs c14
                    by_cases c16 : x1 = (nI 9)
                    · replace hs := vi_t hs c16
                      refine g_tableIn (tgt := 117) (off := 116) C dX9_count_1 (by rw [c16]; decide) (by rw [c16]; decide) (by rw [c16]; decide) (by decide) ?_
                      refine g_aload_n (pl := 0) C dX9_count_117 rfl rfl ?_
                      refine g_get C fX9_75 0 rfl rfl dX9_count_118 ?_
                      cases hs
                      exact hR _ _ dX9_count_121
                    · replace hs := vi_f hs c16
                      by_cases c17 : x1 = (nI 10)
                      · replace hs := vi_t hs c17
                        refine g_tableIn (tgt := 122) (off := 121) C dX9_count_1 (by rw [c17]; decide) (by rw [c17]; decide) (by rw [c17]; decide) (by decide) ?_
                        refine g_aload_n (pl := 0) C dX9_count_122 rfl rfl ?_
                        refine g_get C fX9_68 0 rfl rfl dX9_count_123 ?_
                        cases hs
                        exact hR _ _ dX9_count_126
                      · replace hs := vi_f hs c17
                        by_cases c18 : x1 = (nI 11)
                        · replace hs := vi_t hs c18
                          refine g_tableIn (tgt := 127) (off := 126) C dX9_count_1 (by rw [c18]; decide) (by rw [c18]; decide) (by rw [c18]; decide) (by decide) ?_
                          refine g_aload_n (pl := 0) C dX9_count_127 rfl rfl ?_
                          refine g_get C fX9_72 0 rfl rfl dX9_count_128 ?_
                          cases hs
                          exact hR _ _ dX9_count_131
                        · replace hs := vi_f hs c18
                          by_cases c19 : x1 = (nI 12)
                          · replace hs := vi_t hs c19
                            refine g_tableIn (tgt := 132) (off := 131) C dX9_count_1 (by rw [c19]; decide) (by rw [c19]; decide) (by rw [c19]; decide) (by decide) ?_
                            refine g_aload_n (pl := 0) C dX9_count_132 rfl rfl ?_
                            refine g_get C fX9_86 0 rfl rfl dX9_count_133 ?_
                            cases hs
                            exact hR _ _ dX9_count_136
                          · replace hs := vi_f hs c19
                            refine g_tableOut (tgt := 137) C dX9_count_1 (tsw_out 12 (fun k hk => match k, hk with | 0, _ => c1 | 1, _ => c2 | 2, _ => c4 | 3, _ => c5 | 4, _ => c6 | 5, _ => c8 | 6, _ => c10 | 7, _ => c12 | 8, _ => c14 | 9, _ => c16 | 10, _ => c17 | 11, _ => c18 | 12, _ => c19 | k + 13, h => absurd h (by omega))) (by decide) ?_
                            refine g_iconst (v := (-1)) C dX9_count_137 rfl ?_
                            cases hs
                            exact hR _ _ dX9_count_138

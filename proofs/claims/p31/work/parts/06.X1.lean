def sX1_start (f_used : Int32) : Option (Int32) :=
  some ((nI 0))
abbrev rmX1_start : Room := { frames := 0, cells := 0, slots := 0, locals := 0 }
set_option maxHeartbeats 4000000 in
set_option maxRecDepth 100000 in
theorem cX1_start_ct (l : Launch) (D : va_G) (cI : ClassId) (h : Nat) (a_actors : Nat) (a_words : Nat) (a_costs : Nat) (a_least : Nat) (a_dealt : Nat) (f_used : Int32) {z : Int32} (hs : sX1_start f_used = some z) : ct l yX1_start (.code yX1_start cX1_start 1 none :: gtb) rmX1_start D cI [.ref h] [oX1 h a_actors a_words a_costs a_least a_dealt f_used] none [oX1 h a_actors a_words a_costs a_least a_dealt z] := by
  refine ct_ofV (own := RX1) (by decide +kernel) rfl (Nat.le_of_ble_eq_true rfl) (fun X C hD hR => ?_)
  unfold sX1_start at hs
  show gg cI X 1 0 0 [oX1 h a_actors a_words a_costs a_least a_dealt f_used] [(0, .ref h)] 0 []
  refine g_aload_n (pl := 0) C dX1_start_0 rfl rfl ?_
  refine g_iconst (v := (nI 0)) C dX1_start_1 rfl ?_
  refine g_putI (ws' := [oX1 h a_actors a_words a_costs a_least a_dealt (nI 0)]) C fX1_27 0 rfl (Nat.le_of_ble_eq_true rfl) rfl dX1_start_2 ?_
  cases hs
  exact hR _ _ dX1_start_5
def sX1_add (f_actors : Nat → Int32) (f_words : Nat → Int32) (f_used : Int32) (x1 : Int32) (x2 : Int32) : Option ((Nat → Int32) × (Nat → Int32) × Int32) :=
  vi (f_used < 0) inferInstance (
    some (f_actors, f_words, f_used)) (
    vi ((nI 5) ≤ f_used) inferInstance (
      some (f_actors, f_words, f_used)) (
      vg (vin f_used 5) (
      vlet (upd f_actors (Int32.toNatClampNeg f_used) x1) fun u4 =>
      vg (vin f_used 5) (
      vlet (upd f_words (Int32.toNatClampNeg f_used) x2) fun u6 =>
      vlet (f_used + (nI 1)) fun y7 =>
      some (u4, u6, y7)))))
abbrev rmX1_add : Room := { frames := 0, cells := 0, slots := 0, locals := 0 }
set_option maxHeartbeats 4000000 in
set_option maxRecDepth 100000 in
theorem cX1_add_ct (l : Launch) (D : va_G) (cI : ClassId) (h : Nat) (a_actors : Nat) (a_words : Nat) (a_costs : Nat) (a_least : Nat) (a_dealt : Nat) (f_used : Int32) (f_actors : Nat → Int32) (f_words : Nat → Int32) (x1 : Int32) (x2 : Int32) {z : (Nat → Int32) × (Nat → Int32) × Int32} (hs : sX1_add f_actors f_words f_used x1 x2 = some z) : ct l yX1_add (.code yX1_add cX1_add 3 none :: gtb) rmX1_add D cI [.ref h, .int x1, .int x2] [oX1 h a_actors a_words a_costs a_least a_dealt f_used, aI cI a_actors 5 f_actors, aI cI a_words 5 f_words] none [oX1 h a_actors a_words a_costs a_least a_dealt z.2.2, aI cI a_actors 5 z.1, aI cI a_words 5 z.2.1] := by
  refine ct_ofV (own := RX1) (by decide +kernel) rfl (Nat.le_of_ble_eq_true rfl) (fun X C hD hR => ?_)
  unfold sX1_add at hs
  show gg cI X 3 0 0 [oX1 h a_actors a_words a_costs a_least a_dealt f_used, aI cI a_actors 5 f_actors, aI cI a_words 5 f_words] [(0, .ref h), (1, .int x1), (2, .int x2)] 0 []
  refine g_aload_n (pl := 0) C dX1_add_0 rfl rfl ?_
  refine g_get C fX1_27 0 rfl rfl dX1_add_1 ?_
  refine g_if_lt (tgt := 45) C dX1_add_4 (by decide) (fun c1 => ?_) (fun c1 => ?_)
  · replace hs := vi_t hs c1
    cases hs
    exact hR _ _ dX1_add_45
  · replace hs := vi_f hs c1
    refine g_aload_n (pl := 0) C dX1_add_7 rfl rfl ?_
    refine g_get C fX1_27 0 rfl rfl dX1_add_8 ?_
    refine g_iconst (v := (nI 5)) C dX1_add_11 rfl ?_
    refine g_icmp_ge (tgt := 45) C dX1_add_12 (by decide) (fun c2 => ?_) (fun c2 => ?_)
    · replace hs := vi_t hs c2
      cases hs
      exact hR _ _ dX1_add_45
    · replace hs := vi_f hs c2
      refine g_aload_n (pl := 0) C dX1_add_15 rfl rfl ?_
      refine g_get C fX1_9 0 rfl rfl dX1_add_16 ?_
      refine g_aload_n (pl := 0) C dX1_add_19 rfl rfl ?_
      refine g_get C fX1_27 0 rfl rfl dX1_add_20 ?_
      refine g_iload_n (pl := 1) C dX1_add_23 rfl rfl ?_
      obtain ⟨b3, hs⟩ := vg_ok hs
      obtain ⟨u4, e_u4, hs⟩ := vlet_ex hs
      refine g_iast (ws' := [oX1 h a_actors a_words a_costs a_least a_dealt f_used, aI cI a_actors 5 u4, aI cI a_words 5 f_words]) C 1 rfl (vin_ok b3) (by rw [e_u4]; rfl) dX1_add_24 ?_
      refine g_aload_n (pl := 0) C dX1_add_25 rfl rfl ?_
      refine g_get C fX1_15 0 rfl rfl dX1_add_26 ?_
      refine g_aload_n (pl := 0) C dX1_add_29 rfl rfl ?_
      refine g_get C fX1_27 0 rfl rfl dX1_add_30 ?_
      refine g_iload_n (pl := 2) C dX1_add_33 rfl rfl ?_
      obtain ⟨b5, hs⟩ := vg_ok hs
      obtain ⟨u6, e_u6, hs⟩ := vlet_ex hs
      refine g_iast (ws' := [oX1 h a_actors a_words a_costs a_least a_dealt f_used, aI cI a_actors 5 u4, aI cI a_words 5 u6]) C 2 rfl (vin_ok b5) (by rw [e_u6]; rfl) dX1_add_34 ?_
      refine g_aload_n (pl := 0) C dX1_add_35 rfl rfl ?_
      refine g_dup C dX1_add_36 rfl ?_
      refine g_get C fX1_27 0 rfl rfl dX1_add_37 ?_
      refine g_iconst (v := (nI 1)) C dX1_add_40 rfl ?_
      refine g_iadd C dX1_add_41 ?_
      obtain ⟨y7, e_y7, hs⟩ := vlet_ex hs
      refine g_topi e_y7 ?_
      refine g_putI (ws' := [oX1 h a_actors a_words a_costs a_least a_dealt y7, aI cI a_actors 5 u4, aI cI a_words 5 u6]) C fX1_27 0 rfl (Nat.le_of_ble_eq_true rfl) rfl dX1_add_42 ?_
      cases hs
      exact hR _ _ dX1_add_45
def sX1_size (f_used : Int32) : Option (Int32) :=
  some (f_used)
abbrev rmX1_size : Room := { frames := 0, cells := 0, slots := 0, locals := 0 }
set_option maxHeartbeats 4000000 in
set_option maxRecDepth 100000 in
theorem cX1_size_ct (l : Launch) (D : va_G) (cI : ClassId) (h : Nat) (a_actors : Nat) (a_words : Nat) (a_costs : Nat) (a_least : Nat) (a_dealt : Nat) (f_used : Int32) {z : Int32} (hs : sX1_size f_used = some z) : ct l yX1_size (.code yX1_size cX1_size 1 (some .int) :: gtb) rmX1_size D cI [.ref h] [oX1 h a_actors a_words a_costs a_least a_dealt f_used] (some (.int z)) [oX1 h a_actors a_words a_costs a_least a_dealt f_used] := by
  refine ct_ofI (own := RX1) (by decide +kernel) rfl (Nat.le_of_ble_eq_true rfl) (fun X C hD hR => ?_)
  unfold sX1_size at hs
  show gg cI X 1 0 0 [oX1 h a_actors a_words a_costs a_least a_dealt f_used] [(0, .ref h)] 0 []
  refine g_aload_n (pl := 0) C dX1_size_0 rfl rfl ?_
  refine g_get C fX1_27 0 rfl rfl dX1_size_1 ?_
  cases hs
  exact hR _ _ dX1_size_4
def sX1_actorAt (f_actors : Nat → Int32) (f_used : Int32) (x1 : Int32) : Option (Int32) :=
  vi (x1 < 0) inferInstance (
    some ((nI 0))) (
    vi (f_used ≤ x1) inferInstance (
      some ((nI 0))) (
      vi ((nI 5) ≤ x1) inferInstance (
        some ((nI 0))) (
        vg (vin x1 5) (
        some (f_actors (Int32.toNatClampNeg x1))))))
abbrev rmX1_actorAt : Room := { frames := 0, cells := 0, slots := 0, locals := 0 }
set_option maxHeartbeats 4000000 in
set_option maxRecDepth 100000 in
theorem cX1_actorAt_ct (l : Launch) (D : va_G) (cI : ClassId) (h : Nat) (a_actors : Nat) (a_words : Nat) (a_costs : Nat) (a_least : Nat) (a_dealt : Nat) (f_used : Int32) (f_actors : Nat → Int32) (x1 : Int32) {z : Int32} (hs : sX1_actorAt f_actors f_used x1 = some z) : ct l yX1_actorAt (.code yX1_actorAt cX1_actorAt 2 (some .int) :: gtb) rmX1_actorAt D cI [.ref h, .int x1] [oX1 h a_actors a_words a_costs a_least a_dealt f_used, aI cI a_actors 5 f_actors] (some (.int z)) [oX1 h a_actors a_words a_costs a_least a_dealt f_used, aI cI a_actors 5 f_actors] := by
  refine ct_ofI (own := RX1) (by decide +kernel) rfl (Nat.le_of_ble_eq_true rfl) (fun X C hD hR => ?_)
  unfold sX1_actorAt at hs
  show gg cI X 2 0 0 [oX1 h a_actors a_words a_costs a_least a_dealt f_used, aI cI a_actors 5 f_actors] [(0, .ref h), (1, .int x1)] 0 []
  refine g_iload_n (pl := 1) C dX1_actorAt_0 rfl rfl ?_
  refine g_if_lt (tgt := 26) C dX1_actorAt_1 (by decide) (fun c1 => ?_) (fun c1 => ?_)
  · replace hs := vi_t hs c1
    refine g_iconst (v := (nI 0)) C dX1_actorAt_26 rfl ?_
    cases hs
    exact hR _ _ dX1_actorAt_27
  · replace hs := vi_f hs c1
    refine g_iload_n (pl := 1) C dX1_actorAt_4 rfl rfl ?_
    refine g_aload_n (pl := 0) C dX1_actorAt_5 rfl rfl ?_
    refine g_get C fX1_27 0 rfl rfl dX1_actorAt_6 ?_
    refine g_icmp_ge (tgt := 26) C dX1_actorAt_9 (by decide) (fun c2 => ?_) (fun c2 => ?_)
    · replace hs := vi_t hs c2
      refine g_iconst (v := (nI 0)) C dX1_actorAt_26 rfl ?_
      cases hs
      exact hR _ _ dX1_actorAt_27
    · replace hs := vi_f hs c2
      refine g_iload_n (pl := 1) C dX1_actorAt_12 rfl rfl ?_
      refine g_iconst (v := (nI 5)) C dX1_actorAt_13 rfl ?_
      refine g_icmp_ge (tgt := 26) C dX1_actorAt_14 (by decide) (fun c3 => ?_) (fun c3 => ?_)
      · replace hs := vi_t hs c3
        refine g_iconst (v := (nI 0)) C dX1_actorAt_26 rfl ?_
        cases hs
        exact hR _ _ dX1_actorAt_27
      · replace hs := vi_f hs c3
        refine g_aload_n (pl := 0) C dX1_actorAt_17 rfl rfl ?_
        refine g_get C fX1_9 0 rfl rfl dX1_actorAt_18 ?_
        refine g_iload_n (pl := 1) C dX1_actorAt_21 rfl rfl ?_
        obtain ⟨b4, hs⟩ := vg_ok hs
        refine g_iald C 1 rfl (vin_ok b4) dX1_actorAt_22 ?_
        refine g_goto (tgt := 27) C dX1_actorAt_23 (by decide) ?_
        cases hs
        exact hR _ _ dX1_actorAt_27
def sX1_wordAt (f_words : Nat → Int32) (f_used : Int32) (x1 : Int32) : Option (Int32) :=
  vi (x1 < 0) inferInstance (
    some ((nI 0))) (
    vi (f_used ≤ x1) inferInstance (
      some ((nI 0))) (
      vi ((nI 5) ≤ x1) inferInstance (
        some ((nI 0))) (
        vg (vin x1 5) (
        some (f_words (Int32.toNatClampNeg x1))))))
abbrev rmX1_wordAt : Room := { frames := 0, cells := 0, slots := 0, locals := 0 }
set_option maxHeartbeats 4000000 in
set_option maxRecDepth 100000 in
theorem cX1_wordAt_ct (l : Launch) (D : va_G) (cI : ClassId) (h : Nat) (a_actors : Nat) (a_words : Nat) (a_costs : Nat) (a_least : Nat) (a_dealt : Nat) (f_used : Int32) (f_words : Nat → Int32) (x1 : Int32) {z : Int32} (hs : sX1_wordAt f_words f_used x1 = some z) : ct l yX1_wordAt (.code yX1_wordAt cX1_wordAt 2 (some .int) :: gtb) rmX1_wordAt D cI [.ref h, .int x1] [oX1 h a_actors a_words a_costs a_least a_dealt f_used, aI cI a_words 5 f_words] (some (.int z)) [oX1 h a_actors a_words a_costs a_least a_dealt f_used, aI cI a_words 5 f_words] := by
  refine ct_ofI (own := RX1) (by decide +kernel) rfl (Nat.le_of_ble_eq_true rfl) (fun X C hD hR => ?_)
  unfold sX1_wordAt at hs
  show gg cI X 2 0 0 [oX1 h a_actors a_words a_costs a_least a_dealt f_used, aI cI a_words 5 f_words] [(0, .ref h), (1, .int x1)] 0 []
  refine g_iload_n (pl := 1) C dX1_wordAt_0 rfl rfl ?_
  refine g_if_lt (tgt := 26) C dX1_wordAt_1 (by decide) (fun c1 => ?_) (fun c1 => ?_)
  · replace hs := vi_t hs c1
    refine g_iconst (v := (nI 0)) C dX1_wordAt_26 rfl ?_
    cases hs
    exact hR _ _ dX1_wordAt_27
  · replace hs := vi_f hs c1
    refine g_iload_n (pl := 1) C dX1_wordAt_4 rfl rfl ?_
    refine g_aload_n (pl := 0) C dX1_wordAt_5 rfl rfl ?_
    refine g_get C fX1_27 0 rfl rfl dX1_wordAt_6 ?_
    refine g_icmp_ge (tgt := 26) C dX1_wordAt_9 (by decide) (fun c2 => ?_) (fun c2 => ?_)
    · replace hs := vi_t hs c2
      refine g_iconst (v := (nI 0)) C dX1_wordAt_26 rfl ?_
      cases hs
      exact hR _ _ dX1_wordAt_27
    · replace hs := vi_f hs c2
      refine g_iload_n (pl := 1) C dX1_wordAt_12 rfl rfl ?_
      refine g_iconst (v := (nI 5)) C dX1_wordAt_13 rfl ?_
      refine g_icmp_ge (tgt := 26) C dX1_wordAt_14 (by decide) (fun c3 => ?_) (fun c3 => ?_)
      · replace hs := vi_t hs c3
        refine g_iconst (v := (nI 0)) C dX1_wordAt_26 rfl ?_
        cases hs
        exact hR _ _ dX1_wordAt_27
      · replace hs := vi_f hs c3
        refine g_aload_n (pl := 0) C dX1_wordAt_17 rfl rfl ?_
        refine g_get C fX1_15 0 rfl rfl dX1_wordAt_18 ?_
        refine g_iload_n (pl := 1) C dX1_wordAt_21 rfl rfl ?_
        obtain ⟨b4, hs⟩ := vg_ok hs
        refine g_iald C 1 rfl (vin_ok b4) dX1_wordAt_22 ?_
        refine g_goto (tgt := 27) C dX1_wordAt_23 (by decide) ?_
        cases hs
        exact hR _ _ dX1_wordAt_27
def sX1_setCost (f_costs : Nat → Int32) (x1 : Int32) (x2 : Int32) (x3 : Int32) : Option ((Nat → Int32)) :=
  vi (x1 < 0) inferInstance (
    some (f_costs)) (
    vi ((nI 5) ≤ x1) inferInstance (
      some (f_costs)) (
      vi (x2 < 0) inferInstance (
        some (f_costs)) (
        vi ((nI 5) ≤ x2) inferInstance (
          some (f_costs)) (
          vg (vin ((x1 * (nI 5)) + x2) 25) (
          vlet (upd f_costs (Int32.toNatClampNeg ((x1 * (nI 5)) + x2)) x3) fun u6 =>
          some (u6))))))
abbrev rmX1_setCost : Room := { frames := 0, cells := 0, slots := 0, locals := 0 }
set_option maxHeartbeats 4000000 in
set_option maxRecDepth 100000 in
theorem cX1_setCost_ct (l : Launch) (D : va_G) (cI : ClassId) (h : Nat) (a_actors : Nat) (a_words : Nat) (a_costs : Nat) (a_least : Nat) (a_dealt : Nat) (f_used : Int32) (f_costs : Nat → Int32) (x1 : Int32) (x2 : Int32) (x3 : Int32) {z : (Nat → Int32)} (hs : sX1_setCost f_costs x1 x2 x3 = some z) : ct l yX1_setCost (.code yX1_setCost cX1_setCost 4 none :: gtb) rmX1_setCost D cI [.ref h, .int x1, .int x2, .int x3] [oX1 h a_actors a_words a_costs a_least a_dealt f_used, aI cI a_costs 25 f_costs] none [oX1 h a_actors a_words a_costs a_least a_dealt f_used, aI cI a_costs 25 z] := by
  refine ct_ofV (own := RX1) (by decide +kernel) rfl (Nat.le_of_ble_eq_true rfl) (fun X C hD hR => ?_)
  unfold sX1_setCost at hs
  show gg cI X 4 0 0 [oX1 h a_actors a_words a_costs a_least a_dealt f_used, aI cI a_costs 25 f_costs] [(0, .ref h), (1, .int x1), (2, .int x2), (3, .int x3)] 0 []
  refine g_iload_n (pl := 1) C dX1_setCost_0 rfl rfl ?_
  refine g_if_lt (tgt := 29) C dX1_setCost_1 (by decide) (fun c1 => ?_) (fun c1 => ?_)
  · replace hs := vi_t hs c1
    cases hs
    exact hR _ _ dX1_setCost_29
  · replace hs := vi_f hs c1
    refine g_iload_n (pl := 1) C dX1_setCost_4 rfl rfl ?_
    refine g_iconst (v := (nI 5)) C dX1_setCost_5 rfl ?_
    refine g_icmp_ge (tgt := 29) C dX1_setCost_6 (by decide) (fun c2 => ?_) (fun c2 => ?_)
    · replace hs := vi_t hs c2
      cases hs
      exact hR _ _ dX1_setCost_29
    · replace hs := vi_f hs c2
      refine g_iload_n (pl := 2) C dX1_setCost_9 rfl rfl ?_
      refine g_if_lt (tgt := 29) C dX1_setCost_10 (by decide) (fun c3 => ?_) (fun c3 => ?_)
      · replace hs := vi_t hs c3
        cases hs
        exact hR _ _ dX1_setCost_29
      · replace hs := vi_f hs c3
        refine g_iload_n (pl := 2) C dX1_setCost_13 rfl rfl ?_
        refine g_iconst (v := (nI 5)) C dX1_setCost_14 rfl ?_
        refine g_icmp_ge (tgt := 29) C dX1_setCost_15 (by decide) (fun c4 => ?_) (fun c4 => ?_)
        · replace hs := vi_t hs c4
          cases hs
          exact hR _ _ dX1_setCost_29
        · replace hs := vi_f hs c4
          refine g_aload_n (pl := 0) C dX1_setCost_18 rfl rfl ?_
          refine g_get C fX1_18 0 rfl rfl dX1_setCost_19 ?_
          refine g_iload_n (pl := 1) C dX1_setCost_22 rfl rfl ?_
          refine g_iconst (v := (nI 5)) C dX1_setCost_23 rfl ?_
          refine g_imul C dX1_setCost_24 ?_
          refine g_iload_n (pl := 2) C dX1_setCost_25 rfl rfl ?_
          refine g_iadd C dX1_setCost_26 ?_
          refine g_iload_n (pl := 3) C dX1_setCost_27 rfl rfl ?_
          obtain ⟨b5, hs⟩ := vg_ok hs
          obtain ⟨u6, e_u6, hs⟩ := vlet_ex hs
          refine g_iast (ws' := [oX1 h a_actors a_words a_costs a_least a_dealt f_used, aI cI a_costs 25 u6]) C 1 rfl (vin_ok b5) (by rw [e_u6]; rfl) dX1_setCost_28 ?_
          cases hs
          exact hR _ _ dX1_setCost_29
def sX1_total (f_least : Nat → Int32) (f_used : Int32) : Option (Int32) :=
  vlet (((nI 1) <<< (f_used &&& 31)) - (nI 1)) fun y1 =>
  vi (y1 < 0) inferInstance (
    some ((nI 0))) (
    vi ((nI 32) ≤ y1) inferInstance (
      some ((nI 0))) (
      vg (vin y1 32) (
      some (f_least (Int32.toNatClampNeg y1)))))
abbrev rmX1_total : Room := { frames := 0, cells := 0, slots := 0, locals := 0 }
set_option maxHeartbeats 4000000 in
set_option maxRecDepth 100000 in
theorem cX1_total_ct (l : Launch) (D : va_G) (cI : ClassId) (h : Nat) (a_actors : Nat) (a_words : Nat) (a_costs : Nat) (a_least : Nat) (a_dealt : Nat) (f_used : Int32) (f_least : Nat → Int32) {z : Int32} (hs : sX1_total f_least f_used = some z) : ct l yX1_total (.code yX1_total cX1_total 2 (some .int) :: gtb) rmX1_total D cI [.ref h] [oX1 h a_actors a_words a_costs a_least a_dealt f_used, aI cI a_least 32 f_least] (some (.int z)) [oX1 h a_actors a_words a_costs a_least a_dealt f_used, aI cI a_least 32 f_least] := by
  refine ct_ofI (own := RX1) (by decide +kernel) rfl (Nat.le_of_ble_eq_true rfl) (fun X C hD hR => ?_)
  unfold sX1_total at hs
  show gg cI X 2 0 0 [oX1 h a_actors a_words a_costs a_least a_dealt f_used, aI cI a_least 32 f_least] [(0, .ref h)] 0 []
  refine g_iconst (v := (nI 1)) C dX1_total_0 rfl ?_
  refine g_aload_n (pl := 0) C dX1_total_1 rfl rfl ?_
  refine g_get C fX1_27 0 rfl rfl dX1_total_2 ?_
  refine g_ishl C dX1_total_5 ?_
  refine g_iconst (v := (nI 1)) C dX1_total_6 rfl ?_
  refine g_isub C dX1_total_7 ?_
  obtain ⟨y1, e_y1, hs⟩ := vlet_ex hs
  refine g_topi e_y1 ?_
  refine g_istore_n (lv' := [(1, .int y1), (0, .ref h)]) C dX1_total_8 rfl (by decide) rfl ?_
  refine g_iload_n (pl := 0) C dX1_total_9 rfl rfl ?_
  refine g_if_lt (tgt := 31) C dX1_total_10 (by decide) (fun c2 => ?_) (fun c2 => ?_)
  · replace hs := vi_t hs c2
    refine g_iconst (v := (nI 0)) C dX1_total_31 rfl ?_
    cases hs
    exact hR _ _ dX1_total_32
  · replace hs := vi_f hs c2
    refine g_iload_n (pl := 0) C dX1_total_13 rfl rfl ?_
    refine g_aload_n (pl := 1) C dX1_total_14 rfl rfl ?_
    refine g_get C fX1_21 0 rfl rfl dX1_total_15 ?_
    refine g_alen (v := (nI 32)) C 1 rfl rfl dX1_total_18 ?_
    refine g_icmp_ge (tgt := 31) C dX1_total_19 (by decide) (fun c3 => ?_) (fun c3 => ?_)
    · replace hs := vi_t hs c3
      refine g_iconst (v := (nI 0)) C dX1_total_31 rfl ?_
      cases hs
      exact hR _ _ dX1_total_32
    · replace hs := vi_f hs c3
      refine g_aload_n (pl := 1) C dX1_total_22 rfl rfl ?_
      refine g_get C fX1_21 0 rfl rfl dX1_total_23 ?_
      refine g_iload_n (pl := 0) C dX1_total_26 rfl rfl ?_
      obtain ⟨b4, hs⟩ := vg_ok hs
      refine g_iald C 1 rfl (vin_ok b4) dX1_total_27 ?_
      refine g_goto (tgt := 32) C dX1_total_28 (by decide) ?_
      cases hs
      exact hR _ _ dX1_total_32
def LX1_wordFor_2 (y_1 : Int32) (f_actors : Nat → Int32) (f_words : Nat → Int32) (f_dealt : Nat → Int32) (f_used : Int32) : Nat → Int32 → Option (Int32)
  | 0, _ => none
  | n + 1, y_2 =>
    vi (f_used ≤ y_2) inferInstance (
      some ((-4))) (
      vi ((nI 5) ≤ y_2) inferInstance (
        some ((-4))) (
        vg (vin y_2 5) (
        vi ((f_actors (Int32.toNatClampNeg y_2)) = y_1) inferInstance (
          vg (vin y_2 5) (
          vb (sX1_wordAt f_words f_used (f_dealt (Int32.toNatClampNeg y_2))) fun z7 =>
          some (z7))) (
          vlet (y_2 + (nI 1)) fun y5 =>
          LX1_wordFor_2 y_1 f_actors f_words f_dealt f_used n y5))))
def sX1_wordFor (f_actors : Nat → Int32) (f_words : Nat → Int32) (f_dealt : Nat → Int32) (f_used : Int32) (x1 : Int32) : Option (Int32) :=
  LX1_wordFor_2 x1 f_actors f_words f_dealt f_used vF (nI 0)
abbrev rmX1_wordFor : Room := { frames := 1, cells := 0, slots := 0, locals := 21 }
set_option maxHeartbeats 4000000 in
set_option maxRecDepth 100000 in
theorem LX1_wordFor_2_w {cI : ClassId} {X : xT} (C : cx cI X 3 cX1_wordFor RX1 rmX1_wordFor) (h : Nat) (a_actors : Nat) (a_words : Nat) (a_costs : Nat) (a_least : Nat) (a_dealt : Nat) (f_used : Int32) (f_actors : Nat → Int32) (f_words : Nat → Int32) (f_dealt : Nat → Int32) (y_1 : Int32) {z : Int32} (hR : ∀ (lv : List (Nat × Value)) (pc : Nat), decode cX1_wordFor pc = .ok (.ireturn, 1) → gg cI X 3 0 0 [oX1 h a_actors a_words a_costs a_least a_dealt f_used, aI cI a_actors 5 f_actors, aI cI a_words 5 f_words, aI cI a_dealt 5 f_dealt] lv pc [.int z]) : ∀ (n : Nat) (y_2 : Int32), LX1_wordFor_2 y_1 f_actors f_words f_dealt f_used n y_2 = some z → gg cI X 3 0 0 [oX1 h a_actors a_words a_costs a_least a_dealt f_used, aI cI a_actors 5 f_actors, aI cI a_words 5 f_words, aI cI a_dealt 5 f_dealt] [(0, .ref h), (1, .int y_1), (2, .int y_2)] 2 [] := by
  intro n
  induction n with
  | zero =>
    intro y_2 hs
    exact nn_ok hs
  | succ n ih =>
    intro y_2 hs
    rw [LX1_wordFor_2] at hs
    refine g_iload_n (pl := 2) C dX1_wordFor_2 rfl rfl ?_
    refine g_aload_n (pl := 0) C dX1_wordFor_3 rfl rfl ?_
    refine g_get C fX1_27 0 rfl rfl dX1_wordFor_4 ?_
    refine g_icmp_ge (tgt := 42) C dX1_wordFor_7 (by decide) (fun c1 => ?_) (fun c1 => ?_)
    · replace hs := vi_t hs c1
      refine g_bipush (v := (-4)) C dX1_wordFor_42 rfl ?_
      cases hs
      exact hR _ _ dX1_wordFor_44
    · replace hs := vi_f hs c1
      refine g_iload_n (pl := 2) C dX1_wordFor_10 rfl rfl ?_
      refine g_iconst (v := (nI 5)) C dX1_wordFor_11 rfl ?_
      refine g_icmp_ge (tgt := 42) C dX1_wordFor_12 (by decide) (fun c2 => ?_) (fun c2 => ?_)
      · replace hs := vi_t hs c2
        refine g_bipush (v := (-4)) C dX1_wordFor_42 rfl ?_
        cases hs
        exact hR _ _ dX1_wordFor_44
      · replace hs := vi_f hs c2
        refine g_aload_n (pl := 0) C dX1_wordFor_15 rfl rfl ?_
        refine g_get C fX1_9 0 rfl rfl dX1_wordFor_16 ?_
        refine g_iload_n (pl := 2) C dX1_wordFor_19 rfl rfl ?_
        obtain ⟨b3, hs⟩ := vg_ok hs
        refine g_iald C 1 rfl (vin_ok b3) dX1_wordFor_20 ?_
        refine g_iload_n (pl := 1) C dX1_wordFor_21 rfl rfl ?_
        refine g_icmp_ne (tgt := 36) C dX1_wordFor_22 (by decide) (fun c4 => ?_) (fun c4 => ?_)
        · replace hs := vi_f hs c4
          obtain ⟨y5, e_y5, hs⟩ := vlet_ex hs
          refine g_iinc (pl := 2) (lv' := [(2, .int y5), (0, .ref h), (1, .int y_1)]) C dX1_wordFor_36 rfl e_y5.symm (by decide) rfl ?_
          refine g_goto (tgt := 2) C dX1_wordFor_39 (by decide) ?_
          refine g_sub [1, 2, 0] rfl ?_
          exact ih y5 hs
        · replace hs := vi_t hs c4
          refine g_aload_n (pl := 0) C dX1_wordFor_25 rfl rfl ?_
          refine g_aload_n (pl := 0) C dX1_wordFor_26 rfl rfl ?_
          refine g_get C fX1_24 0 rfl rfl dX1_wordFor_27 ?_
          refine g_iload_n (pl := 2) C dX1_wordFor_30 rfl rfl ?_
          obtain ⟨b6, hs⟩ := vg_ok hs
          refine g_iald C 3 rfl (vin_ok b6) dX1_wordFor_31 ?_
          obtain ⟨z7, e_z7, hs⟩ := vb_ok hs
          refine g_callV (ws' := [oX1 h a_actors a_words a_costs a_least a_dealt f_used, aI cI a_actors 5 f_actors, aI cI a_words 5 f_words, aI cI a_dealt 5 f_dealt]) (rest := []) (st' := [.int z7]) C mX1_31 q3_205 [.int (f_dealt (Int32.toNatClampNeg y_2))] (fun l D => cX1_wordAt_ct l D cI h a_actors a_words a_costs a_least a_dealt f_used f_words (f_dealt (Int32.toNatClampNeg y_2)) e_z7) ⟨⟨rfl, rfl⟩, Nat.le_of_ble_eq_true rfl, Nat.le_of_ble_eq_true rfl⟩ 0 rfl rfl rfl [0, 2] rfl rfl rfl rfl rfl (Nat.le_of_ble_eq_true rfl) (Nat.zero_le _) (Nat.zero_le _) rfl dX1_wordFor_32 ?_
          cases hs
          exact hR _ _ dX1_wordFor_35
set_option maxHeartbeats 4000000 in
set_option maxRecDepth 100000 in
theorem cX1_wordFor_ct (l : Launch) (D : va_G) (cI : ClassId) (h : Nat) (a_actors : Nat) (a_words : Nat) (a_costs : Nat) (a_least : Nat) (a_dealt : Nat) (f_used : Int32) (f_actors : Nat → Int32) (f_words : Nat → Int32) (f_dealt : Nat → Int32) (x1 : Int32) {z : Int32} (hs : sX1_wordFor f_actors f_words f_dealt f_used x1 = some z) : ct l yX1_wordFor (.code yX1_wordFor cX1_wordFor 3 (some .int) :: gtb) rmX1_wordFor D cI [.ref h, .int x1] [oX1 h a_actors a_words a_costs a_least a_dealt f_used, aI cI a_actors 5 f_actors, aI cI a_words 5 f_words, aI cI a_dealt 5 f_dealt] (some (.int z)) [oX1 h a_actors a_words a_costs a_least a_dealt f_used, aI cI a_actors 5 f_actors, aI cI a_words 5 f_words, aI cI a_dealt 5 f_dealt] := by
  refine ct_ofI (own := RX1) (by decide +kernel) rfl (Nat.le_of_ble_eq_true rfl) (fun X C hD hR => ?_)
  unfold sX1_wordFor at hs
  show gg cI X 3 0 0 [oX1 h a_actors a_words a_costs a_least a_dealt f_used, aI cI a_actors 5 f_actors, aI cI a_words 5 f_words, aI cI a_dealt 5 f_dealt] [(0, .ref h), (1, .int x1)] 0 []
  refine g_iconst (v := (nI 0)) C dX1_wordFor_0 rfl ?_
  refine g_istore_n (lv' := [(2, .int (nI 0)), (0, .ref h), (1, .int x1)]) C dX1_wordFor_1 rfl (by decide) rfl ?_
  refine g_sub [1, 2, 0] rfl ?_
  exact LX1_wordFor_2_w C h a_actors a_words a_costs a_least a_dealt f_used f_actors f_words f_dealt x1 hR _ (nI 0) hs
def sX1_sumWith (f_costs : Nat → Int32) (f_least : Nat → Int32) (f_used : Int32) (x1 : Int32) (x2 : Int32) : Option (Int32) :=
  vb (sJ6_bitCount_0f7a4 x1) fun z1 =>
  vlet (f_used - z1) fun y2 =>
  vlet (x1 &&& (((nI 1) <<< (x2 &&& 31)) ^^^ (-1))) fun y3 =>
  vlet ((y2 * (nI 5)) + x2) fun y4 =>
  vi (y4 < 0) inferInstance (
    some ((nI 0))) (
    vi ((nI 25) ≤ y4) inferInstance (
      some ((nI 0))) (
      vi (y3 < 0) inferInstance (
        some ((nI 0))) (
        vi ((nI 32) ≤ y3) inferInstance (
          some ((nI 0))) (
          vg (vin y4 25) (
          vg (vin y3 32) (
          some ((f_costs (Int32.toNatClampNeg y4)) + (f_least (Int32.toNatClampNeg y3)))))))))
abbrev rmX1_sumWith : Room := { frames := 1, cells := 0, slots := 0, locals := 20 }
set_option maxHeartbeats 4000000 in
set_option maxRecDepth 100000 in
theorem cX1_sumWith_ct (l : Launch) (D : va_G) (cI : ClassId) (h : Nat) (a_actors : Nat) (a_words : Nat) (a_costs : Nat) (a_least : Nat) (a_dealt : Nat) (f_used : Int32) (f_costs : Nat → Int32) (f_least : Nat → Int32) (x1 : Int32) (x2 : Int32) {z : Int32} (hs : sX1_sumWith f_costs f_least f_used x1 x2 = some z) : ct l yX1_sumWith (.code yX1_sumWith cX1_sumWith 6 (some .int) :: gtb) rmX1_sumWith D cI [.ref h, .int x1, .int x2] [oX1 h a_actors a_words a_costs a_least a_dealt f_used, aI cI a_costs 25 f_costs, aI cI a_least 32 f_least] (some (.int z)) [oX1 h a_actors a_words a_costs a_least a_dealt f_used, aI cI a_costs 25 f_costs, aI cI a_least 32 f_least] := by
  refine ct_ofI (own := RX1) (by decide +kernel) rfl (Nat.le_of_ble_eq_true rfl) (fun X C hD hR => ?_)
  unfold sX1_sumWith at hs
  show gg cI X 6 0 0 [oX1 h a_actors a_words a_costs a_least a_dealt f_used, aI cI a_costs 25 f_costs, aI cI a_least 32 f_least] [(0, .ref h), (1, .int x1), (2, .int x2)] 0 []
  refine g_aload_n (pl := 0) C dX1_sumWith_0 rfl rfl ?_
  refine g_get C fX1_27 0 rfl rfl dX1_sumWith_1 ?_
  refine g_iload_n (pl := 1) C dX1_sumWith_4 rfl rfl ?_
  obtain ⟨z1, e_z1, hs⟩ := vb_ok hs
  refine g_callS (ws' := [oX1 h a_actors a_words a_costs a_least a_dealt f_used, aI cI a_costs 25 f_costs, aI cI a_least 32 f_least]) (rest := [.int f_used]) (st' := [.int z1, .int f_used]) C mX1_42 q3_67 [.int x1] (fun l D => cJ6_bitCount_0f7a4_ct l D cI x1 e_z1) ⟨⟨rfl, rfl⟩, Nat.le_of_ble_eq_true rfl, Nat.le_of_ble_eq_true rfl⟩ rfl [] rfl rfl rfl rfl rfl (Nat.le_of_ble_eq_true rfl) (Nat.zero_le _) (Nat.zero_le _) rfl dX1_sumWith_5 ?_
  refine g_isub C dX1_sumWith_8 ?_
  obtain ⟨y2, e_y2, hs⟩ := vlet_ex hs
  refine g_topi e_y2 ?_
  refine g_istore_n (lv' := [(3, .int y2), (0, .ref h), (1, .int x1), (2, .int x2)]) C dX1_sumWith_9 rfl (by decide) rfl ?_
  refine g_iload_n (pl := 2) C dX1_sumWith_10 rfl rfl ?_
  refine g_iconst (v := (nI 1)) C dX1_sumWith_11 rfl ?_
  refine g_iload_n (pl := 3) C dX1_sumWith_12 rfl rfl ?_
  refine g_ishl C dX1_sumWith_13 ?_
  refine g_iconst (v := (-1)) C dX1_sumWith_14 rfl ?_
  refine g_ixor C dX1_sumWith_15 ?_
  refine g_iand C dX1_sumWith_16 ?_
  obtain ⟨y3, e_y3, hs⟩ := vlet_ex hs
  refine g_topi e_y3 ?_
  refine g_istore (lv' := [(4, .int y3), (3, .int y2), (0, .ref h), (1, .int x1), (2, .int x2)]) C dX1_sumWith_17 (by decide) rfl ?_
  refine g_iload_n (pl := 1) C dX1_sumWith_19 rfl rfl ?_
  refine g_iconst (v := (nI 5)) C dX1_sumWith_20 rfl ?_
  refine g_imul C dX1_sumWith_21 ?_
  refine g_iload_n (pl := 4) C dX1_sumWith_22 rfl rfl ?_
  refine g_iadd C dX1_sumWith_23 ?_
  obtain ⟨y4, e_y4, hs⟩ := vlet_ex hs
  refine g_topi e_y4 ?_
  refine g_istore (lv' := [(5, .int y4), (4, .int y3), (3, .int y2), (0, .ref h), (1, .int x1), (2, .int x2)]) C dX1_sumWith_24 (by decide) rfl ?_
  refine g_iload (pl := 0) C dX1_sumWith_26 rfl ?_
  refine g_if_lt (tgt := 74) C dX1_sumWith_28 (by decide) (fun c5 => ?_) (fun c5 => ?_)
  · replace hs := vi_t hs c5
    refine g_iconst (v := (nI 0)) C dX1_sumWith_74 rfl ?_
    cases hs
    exact hR _ _ dX1_sumWith_75
  · replace hs := vi_f hs c5
    refine g_iload (pl := 0) C dX1_sumWith_31 rfl ?_
    refine g_aload_n (pl := 3) C dX1_sumWith_33 rfl rfl ?_
    refine g_get C fX1_18 0 rfl rfl dX1_sumWith_34 ?_
    refine g_alen (v := (nI 25)) C 1 rfl rfl dX1_sumWith_37 ?_
    refine g_icmp_ge (tgt := 74) C dX1_sumWith_38 (by decide) (fun c6 => ?_) (fun c6 => ?_)
    · replace hs := vi_t hs c6
      refine g_iconst (v := (nI 0)) C dX1_sumWith_74 rfl ?_
      cases hs
      exact hR _ _ dX1_sumWith_75
    · replace hs := vi_f hs c6
      refine g_iload (pl := 1) C dX1_sumWith_41 rfl ?_
      refine g_if_lt (tgt := 74) C dX1_sumWith_43 (by decide) (fun c7 => ?_) (fun c7 => ?_)
      · replace hs := vi_t hs c7
        refine g_iconst (v := (nI 0)) C dX1_sumWith_74 rfl ?_
        cases hs
        exact hR _ _ dX1_sumWith_75
      · replace hs := vi_f hs c7
        refine g_iload (pl := 1) C dX1_sumWith_46 rfl ?_
        refine g_aload_n (pl := 3) C dX1_sumWith_48 rfl rfl ?_
        refine g_get C fX1_21 0 rfl rfl dX1_sumWith_49 ?_
        refine g_alen (v := (nI 32)) C 2 rfl rfl dX1_sumWith_52 ?_
        refine g_icmp_ge (tgt := 74) C dX1_sumWith_53 (by decide) (fun c8 => ?_) (fun c8 => ?_)
        · replace hs := vi_t hs c8
          refine g_iconst (v := (nI 0)) C dX1_sumWith_74 rfl ?_
          cases hs
          exact hR _ _ dX1_sumWith_75
        · replace hs := vi_f hs c8
          refine g_aload_n (pl := 3) C dX1_sumWith_56 rfl rfl ?_
          refine g_get C fX1_18 0 rfl rfl dX1_sumWith_57 ?_
          refine g_iload (pl := 0) C dX1_sumWith_60 rfl ?_
          obtain ⟨b9, hs⟩ := vg_ok hs
          refine g_iald C 1 rfl (vin_ok b9) dX1_sumWith_62 ?_
          refine g_aload_n (pl := 3) C dX1_sumWith_63 rfl rfl ?_
          refine g_get C fX1_21 0 rfl rfl dX1_sumWith_64 ?_
          refine g_iload (pl := 1) C dX1_sumWith_67 rfl ?_
          obtain ⟨b10, hs⟩ := vg_ok hs
          refine g_iald C 2 rfl (vin_ok b10) dX1_sumWith_69 ?_
          refine g_iadd C dX1_sumWith_70 ?_
          refine g_goto (tgt := 75) C dX1_sumWith_71 (by decide) ?_
          cases hs
          exact hR _ _ dX1_sumWith_75
def LX1_firstOfBest_5 (y_1 : Int32) (f_costs : Nat → Int32) (f_least : Nat → Int32) (f_used : Int32) : Nat → Int32 → Int32 → Option (Int32)
  | 0, _, _ => none
  | n + 1, y_2, y_3 =>
    vi (f_used ≤ y_3) inferInstance (
      some (y_2)) (
      vi (((y_1 >>> (y_3 &&& 31)) &&& (nI 1)) = (nI 1)) inferInstance (
        vi (y_2 = (-4)) inferInstance (
          vlet (y_3 + (nI 1)) fun y5 =>
          LX1_firstOfBest_5 y_1 f_costs f_least f_used n y_3 y5) (
          vb (sX1_sumWith f_costs f_least f_used y_1 y_3) fun z6 =>
          vb (sX1_sumWith f_costs f_least f_used y_1 y_2) fun z7 =>
          vi (z7 ≤ z6) inferInstance (
            vlet (y_3 + (nI 1)) fun y9 =>
            LX1_firstOfBest_5 y_1 f_costs f_least f_used n y_2 y9) (
            vlet (y_3 + (nI 1)) fun y10 =>
            LX1_firstOfBest_5 y_1 f_costs f_least f_used n y_3 y10))) (
        vlet (y_3 + (nI 1)) fun y3 =>
        LX1_firstOfBest_5 y_1 f_costs f_least f_used n y_2 y3))
def sX1_firstOfBest (f_costs : Nat → Int32) (f_least : Nat → Int32) (f_used : Int32) (x1 : Int32) : Option (Int32) :=
  LX1_firstOfBest_5 x1 f_costs f_least f_used vF (-4) (nI 0)
abbrev rmX1_firstOfBest : Room := { frames := 2, cells := 0, slots := 0, locals := 45 }
set_option maxHeartbeats 4000000 in
set_option maxRecDepth 100000 in
theorem LX1_firstOfBest_5_w {cI : ClassId} {X : xT} (C : cx cI X 4 cX1_firstOfBest RX1 rmX1_firstOfBest) (h : Nat) (a_actors : Nat) (a_words : Nat) (a_costs : Nat) (a_least : Nat) (a_dealt : Nat) (f_used : Int32) (f_costs : Nat → Int32) (f_least : Nat → Int32) (y_1 : Int32) {z : Int32} (hR : ∀ (lv : List (Nat × Value)) (pc : Nat), decode cX1_firstOfBest pc = .ok (.ireturn, 1) → gg cI X 4 0 0 [oX1 h a_actors a_words a_costs a_least a_dealt f_used, aI cI a_costs 25 f_costs, aI cI a_least 32 f_least] lv pc [.int z]) : ∀ (n : Nat) (y_2 : Int32) (y_3 : Int32), LX1_firstOfBest_5 y_1 f_costs f_least f_used n y_2 y_3 = some z → gg cI X 4 0 0 [oX1 h a_actors a_words a_costs a_least a_dealt f_used, aI cI a_costs 25 f_costs, aI cI a_least 32 f_least] [(0, .ref h), (1, .int y_1), (2, .int y_2), (3, .int y_3)] 5 [] := by
  intro n
  induction n with
  | zero =>
    intro y_2 y_3 hs
    exact nn_ok hs
  | succ n ih =>
    intro y_2 y_3 hs
    rw [LX1_firstOfBest_5] at hs
    refine g_iload_n (pl := 3) C dX1_firstOfBest_5 rfl rfl ?_
    refine g_aload_n (pl := 0) C dX1_firstOfBest_6 rfl rfl ?_
    refine g_get C fX1_27 0 rfl rfl dX1_firstOfBest_7 ?_
    refine g_icmp_ge (tgt := 51) C dX1_firstOfBest_10 (by decide) (fun c1 => ?_) (fun c1 => ?_)
    · replace hs := vi_t hs c1
      refine g_iload_n (pl := 2) C dX1_firstOfBest_51 rfl rfl ?_
      cases hs
      exact hR _ _ dX1_firstOfBest_52
    · replace hs := vi_f hs c1
      refine g_iload_n (pl := 1) C dX1_firstOfBest_13 rfl rfl ?_
      refine g_iload_n (pl := 3) C dX1_firstOfBest_14 rfl rfl ?_
      refine g_ishr C dX1_firstOfBest_15 ?_
      refine g_iconst (v := (nI 1)) C dX1_firstOfBest_16 rfl ?_
      refine g_iand C dX1_firstOfBest_17 ?_
      refine g_iconst (v := (nI 1)) C dX1_firstOfBest_18 rfl ?_
      refine g_icmp_ne (tgt := 45) C dX1_firstOfBest_19 (by decide) (fun c2 => ?_) (fun c2 => ?_)
      · replace hs := vi_f hs c2
        obtain ⟨y3, e_y3, hs⟩ := vlet_ex hs
        refine g_iinc (pl := 3) (lv' := [(3, .int y3), (0, .ref h), (1, .int y_1), (2, .int y_2)]) C dX1_firstOfBest_45 rfl e_y3.symm (by decide) rfl ?_
        refine g_goto (tgt := 5) C dX1_firstOfBest_48 (by decide) ?_
        refine g_sub [1, 2, 3, 0] rfl ?_
        exact ih y_2 y3 hs
      · replace hs := vi_t hs c2
        refine g_iload_n (pl := 2) C dX1_firstOfBest_22 rfl rfl ?_
        refine g_bipush (v := (-4)) C dX1_firstOfBest_23 rfl ?_
        refine g_icmp_eq (tgt := 43) C dX1_firstOfBest_25 (by decide) (fun c4 => ?_) (fun c4 => ?_)
        · replace hs := vi_t hs c4
          refine g_iload_n (pl := 3) C dX1_firstOfBest_43 rfl rfl ?_
          refine g_istore_n (lv' := [(2, .int y_3), (0, .ref h), (1, .int y_1), (3, .int y_3)]) C dX1_firstOfBest_44 rfl (by decide) rfl ?_
          obtain ⟨y5, e_y5, hs⟩ := vlet_ex hs
          refine g_iinc (pl := 3) (lv' := [(3, .int y5), (2, .int y_3), (0, .ref h), (1, .int y_1)]) C dX1_firstOfBest_45 rfl e_y5.symm (by decide) rfl ?_
          refine g_goto (tgt := 5) C dX1_firstOfBest_48 (by decide) ?_
          refine g_sub [2, 3, 1, 0] rfl ?_
          exact ih y_3 y5 hs
        · replace hs := vi_f hs c4
          refine g_aload_n (pl := 0) C dX1_firstOfBest_28 rfl rfl ?_
          refine g_iload_n (pl := 1) C dX1_firstOfBest_29 rfl rfl ?_
          refine g_iload_n (pl := 3) C dX1_firstOfBest_30 rfl rfl ?_
          obtain ⟨z6, e_z6, hs⟩ := vb_ok hs
          refine g_callV (ws' := [oX1 h a_actors a_words a_costs a_least a_dealt f_used, aI cI a_costs 25 f_costs, aI cI a_least 32 f_least]) (rest := []) (st' := [.int z6]) C mX1_38 q3_221 [.int y_1, .int y_3] (fun l D => cX1_sumWith_ct l D cI h a_actors a_words a_costs a_least a_dealt f_used f_costs f_least y_1 y_3 e_z6) ⟨⟨rfl, rfl⟩, Nat.le_of_ble_eq_true rfl, Nat.le_of_ble_eq_true rfl⟩ 0 rfl rfl rfl [0, 1, 2] rfl rfl rfl rfl rfl (Nat.le_of_ble_eq_true rfl) (Nat.zero_le _) (Nat.zero_le _) rfl dX1_firstOfBest_31 ?_
          refine g_aload_n (pl := 0) C dX1_firstOfBest_34 rfl rfl ?_
          refine g_iload_n (pl := 1) C dX1_firstOfBest_35 rfl rfl ?_
          refine g_iload_n (pl := 2) C dX1_firstOfBest_36 rfl rfl ?_
          obtain ⟨z7, e_z7, hs⟩ := vb_ok hs
          refine g_callV (ws' := [oX1 h a_actors a_words a_costs a_least a_dealt f_used, aI cI a_costs 25 f_costs, aI cI a_least 32 f_least]) (rest := [.int z6]) (st' := [.int z7, .int z6]) C mX1_38 q3_221 [.int y_1, .int y_2] (fun l D => cX1_sumWith_ct l D cI h a_actors a_words a_costs a_least a_dealt f_used f_costs f_least y_1 y_2 e_z7) ⟨⟨rfl, rfl⟩, Nat.le_of_ble_eq_true rfl, Nat.le_of_ble_eq_true rfl⟩ 0 rfl rfl rfl [0, 1, 2] rfl rfl rfl rfl rfl (Nat.le_of_ble_eq_true rfl) (Nat.zero_le _) (Nat.zero_le _) rfl dX1_firstOfBest_37 ?_
          refine g_icmp_ge (tgt := 45) C dX1_firstOfBest_40 (by decide) (fun c8 => ?_) (fun c8 => ?_)
          · replace hs := vi_t hs c8
            obtain ⟨y9, e_y9, hs⟩ := vlet_ex hs
            refine g_iinc (pl := 3) (lv' := [(3, .int y9), (0, .ref h), (1, .int y_1), (2, .int y_2)]) C dX1_firstOfBest_45 rfl e_y9.symm (by decide) rfl ?_
            refine g_goto (tgt := 5) C dX1_firstOfBest_48 (by decide) ?_
            refine g_sub [1, 2, 3, 0] rfl ?_
            exact ih y_2 y9 hs
          · replace hs := vi_f hs c8
            refine g_iload_n (pl := 3) C dX1_firstOfBest_43 rfl rfl ?_
            refine g_istore_n (lv' := [(2, .int y_3), (0, .ref h), (1, .int y_1), (3, .int y_3)]) C dX1_firstOfBest_44 rfl (by decide) rfl ?_
            obtain ⟨y10, e_y10, hs⟩ := vlet_ex hs
            refine g_iinc (pl := 3) (lv' := [(3, .int y10), (2, .int y_3), (0, .ref h), (1, .int y_1)]) C dX1_firstOfBest_45 rfl e_y10.symm (by decide) rfl ?_
            refine g_goto (tgt := 5) C dX1_firstOfBest_48 (by decide) ?_
            refine g_sub [2, 3, 1, 0] rfl ?_
            exact ih y_3 y10 hs
set_option maxHeartbeats 4000000 in
set_option maxRecDepth 100000 in
theorem cX1_firstOfBest_ct (l : Launch) (D : va_G) (cI : ClassId) (h : Nat) (a_actors : Nat) (a_words : Nat) (a_costs : Nat) (a_least : Nat) (a_dealt : Nat) (f_used : Int32) (f_costs : Nat → Int32) (f_least : Nat → Int32) (x1 : Int32) {z : Int32} (hs : sX1_firstOfBest f_costs f_least f_used x1 = some z) : ct l yX1_firstOfBest (.code yX1_firstOfBest cX1_firstOfBest 4 (some .int) :: gtb) rmX1_firstOfBest D cI [.ref h, .int x1] [oX1 h a_actors a_words a_costs a_least a_dealt f_used, aI cI a_costs 25 f_costs, aI cI a_least 32 f_least] (some (.int z)) [oX1 h a_actors a_words a_costs a_least a_dealt f_used, aI cI a_costs 25 f_costs, aI cI a_least 32 f_least] := by
  refine ct_ofI (own := RX1) (by decide +kernel) rfl (Nat.le_of_ble_eq_true rfl) (fun X C hD hR => ?_)
  unfold sX1_firstOfBest at hs
  show gg cI X 4 0 0 [oX1 h a_actors a_words a_costs a_least a_dealt f_used, aI cI a_costs 25 f_costs, aI cI a_least 32 f_least] [(0, .ref h), (1, .int x1)] 0 []
  refine g_bipush (v := (-4)) C dX1_firstOfBest_0 rfl ?_
  refine g_istore_n (lv' := [(2, .int (-4)), (0, .ref h), (1, .int x1)]) C dX1_firstOfBest_2 rfl (by decide) rfl ?_
  refine g_iconst (v := (nI 0)) C dX1_firstOfBest_3 rfl ?_
  refine g_istore_n (lv' := [(3, .int (nI 0)), (2, .int (-4)), (0, .ref h), (1, .int x1)]) C dX1_firstOfBest_4 rfl (by decide) rfl ?_
  refine g_sub [2, 3, 1, 0] rfl ?_
  exact LX1_firstOfBest_5_w C h a_actors a_words a_costs a_least a_dealt f_used f_costs f_least x1 hR _ (-4) (nI 0) hs
def LX1_settle_61 (f_costs : Nat → Int32) (f_least : Nat → Int32) (f_used : Int32) : Nat → Int32 → Int32 → (Nat → Int32) → Option ((Nat → Int32) × (Nat → Int32))
  | 0, _, _, _ => none
  | n + 1, y_1, y_2, f_dealt =>
    vi (f_used ≤ y_2) inferInstance (
      some (f_least, f_dealt)) (
      vi ((nI 5) ≤ y_2) inferInstance (
        some (f_least, f_dealt)) (
        vb (sX1_firstOfBest f_costs f_least f_used y_1) fun z3 =>
        vg (vin y_2 5) (
        vlet (upd f_dealt (Int32.toNatClampNeg y_2) z3) fun u5 =>
        vg (vin y_2 5) (
        vlet (y_1 &&& (((nI 1) <<< ((u5 (Int32.toNatClampNeg y_2)) &&& 31)) ^^^ (-1))) fun y7 =>
        vlet (y_2 + (nI 1)) fun y8 =>
        LX1_settle_61 f_costs f_least f_used n y7 y8 u5))))
def LX1_settle_9 (f_costs : Nat → Int32) (f_dealt : Nat → Int32) (f_used : Int32) : Nat → Int32 → (Nat → Int32) → Option ((Nat → Int32) × (Nat → Int32))
  | 0, _, _ => none
  | n + 1, y_1, f_least =>
    vi (((nI 1) <<< (f_used &&& 31)) ≤ y_1) inferInstance (
      vlet (((nI 1) <<< (f_used &&& 31)) - (nI 1)) fun y10 =>
      LX1_settle_61 f_costs f_least f_used vF y10 (nI 0) f_dealt) (
      vi ((nI 32) ≤ y_1) inferInstance (
        vlet (((nI 1) <<< (f_used &&& 31)) - (nI 1)) fun y12 =>
        LX1_settle_61 f_costs f_least f_used vF y12 (nI 0) f_dealt) (
        vb (sX1_firstOfBest f_costs f_least f_used y_1) fun z13 =>
        vb (sX1_sumWith f_costs f_least f_used y_1 z13) fun z14 =>
        vg (vin y_1 32) (
        vlet (upd f_least (Int32.toNatClampNeg y_1) z14) fun u16 =>
        vlet (y_1 + (nI 1)) fun y17 =>
        LX1_settle_9 f_costs f_dealt f_used n y17 u16)))
def sX1_settle (f_costs : Nat → Int32) (f_least : Nat → Int32) (f_dealt : Nat → Int32) (f_used : Int32) : Option ((Nat → Int32) × (Nat → Int32)) :=
  vlet (upd f_least (Int32.toNatClampNeg (nI 0)) (nI 0)) fun u18 =>
  LX1_settle_9 f_costs f_dealt f_used vF (nI 1) u18
abbrev rmX1_settle : Room := { frames := 3, cells := 0, slots := 0, locals := 68 }
set_option maxHeartbeats 4000000 in
set_option maxRecDepth 100000 in
theorem LX1_settle_61_w {cI : ClassId} {X : xT} (C : cx cI X 3 cX1_settle RX1 rmX1_settle) (h : Nat) (a_actors : Nat) (a_words : Nat) (a_costs : Nat) (a_least : Nat) (a_dealt : Nat) (f_used : Int32) (f_costs : Nat → Int32) (f_least : Nat → Int32) {z : (Nat → Int32) × (Nat → Int32)} (hR : ∀ (lv : List (Nat × Value)) (pc : Nat), decode cX1_settle pc = .ok (.return_, 1) → gg cI X 3 0 0 [oX1 h a_actors a_words a_costs a_least a_dealt f_used, aI cI a_costs 25 f_costs, aI cI a_least 32 z.1, aI cI a_dealt 5 z.2] lv pc []) : ∀ (n : Nat) (y_1 : Int32) (y_2 : Int32) (f_dealt : Nat → Int32), LX1_settle_61 f_costs f_least f_used n y_1 y_2 f_dealt = some z → gg cI X 3 0 0 [oX1 h a_actors a_words a_costs a_least a_dealt f_used, aI cI a_costs 25 f_costs, aI cI a_least 32 f_least, aI cI a_dealt 5 f_dealt] [(0, .ref h), (1, .int y_1), (2, .int y_2)] 61 [] := by
  intro n
  induction n with
  | zero =>
    intro y_1 y_2 f_dealt hs
    exact nn_ok hs
  | succ n ih =>
    intro y_1 y_2 f_dealt hs
    rw [LX1_settle_61] at hs
    refine g_iload_n (pl := 2) C dX1_settle_61 rfl rfl ?_
    refine g_aload_n (pl := 0) C dX1_settle_62 rfl rfl ?_
    refine g_get C fX1_27 0 rfl rfl dX1_settle_63 ?_
    refine g_icmp_ge (tgt := 104) C dX1_settle_66 (by decide) (fun c1 => ?_) (fun c1 => ?_)
    · replace hs := vi_t hs c1
      cases hs
      exact hR _ _ dX1_settle_104
    · replace hs := vi_f hs c1
      refine g_iload_n (pl := 2) C dX1_settle_69 rfl rfl ?_
      refine g_iconst (v := (nI 5)) C dX1_settle_70 rfl ?_
      refine g_icmp_ge (tgt := 104) C dX1_settle_71 (by decide) (fun c2 => ?_) (fun c2 => ?_)
      · replace hs := vi_t hs c2
        cases hs
        exact hR _ _ dX1_settle_104
      · replace hs := vi_f hs c2
        refine g_aload_n (pl := 0) C dX1_settle_74 rfl rfl ?_
        refine g_get C fX1_24 0 rfl rfl dX1_settle_75 ?_
        refine g_iload_n (pl := 2) C dX1_settle_78 rfl rfl ?_
        refine g_aload_n (pl := 0) C dX1_settle_79 rfl rfl ?_
        refine g_iload_n (pl := 1) C dX1_settle_80 rfl rfl ?_
        obtain ⟨z3, e_z3, hs⟩ := vb_ok hs
        refine g_callV (ws' := [oX1 h a_actors a_words a_costs a_least a_dealt f_used, aI cI a_costs 25 f_costs, aI cI a_least 32 f_least, aI cI a_dealt 5 f_dealt]) (rest := [.int y_2, .ref a_dealt]) (st' := [.int z3, .int y_2, .ref a_dealt]) C mX1_35 q3_217 [.int y_1] (fun l D => cX1_firstOfBest_ct l D cI h a_actors a_words a_costs a_least a_dealt f_used f_costs f_least y_1 e_z3) ⟨⟨rfl, rfl⟩, Nat.le_of_ble_eq_true rfl, Nat.le_of_ble_eq_true rfl⟩ 0 rfl rfl rfl [0, 1, 2] rfl rfl rfl rfl rfl (Nat.le_of_ble_eq_true rfl) (Nat.zero_le _) (Nat.zero_le _) rfl dX1_settle_81 ?_
        obtain ⟨b4, hs⟩ := vg_ok hs
        obtain ⟨u5, e_u5, hs⟩ := vlet_ex hs
        refine g_iast (ws' := [oX1 h a_actors a_words a_costs a_least a_dealt f_used, aI cI a_costs 25 f_costs, aI cI a_least 32 f_least, aI cI a_dealt 5 u5]) C 3 rfl (vin_ok b4) (by rw [e_u5]; rfl) dX1_settle_84 ?_
        refine g_iload_n (pl := 1) C dX1_settle_85 rfl rfl ?_
        refine g_iconst (v := (nI 1)) C dX1_settle_86 rfl ?_
        refine g_aload_n (pl := 0) C dX1_settle_87 rfl rfl ?_
        refine g_get C fX1_24 0 rfl rfl dX1_settle_88 ?_
        refine g_iload_n (pl := 2) C dX1_settle_91 rfl rfl ?_
        obtain ⟨b6, hs⟩ := vg_ok hs
        refine g_iald C 3 rfl (vin_ok b6) dX1_settle_92 ?_
        refine g_ishl C dX1_settle_93 ?_
        refine g_iconst (v := (-1)) C dX1_settle_94 rfl ?_
        refine g_ixor C dX1_settle_95 ?_
        refine g_iand C dX1_settle_96 ?_
        obtain ⟨y7, e_y7, hs⟩ := vlet_ex hs
        refine g_topi e_y7 ?_
        refine g_istore_n (lv' := [(1, .int y7), (0, .ref h), (2, .int y_2)]) C dX1_settle_97 rfl (by decide) rfl ?_
        obtain ⟨y8, e_y8, hs⟩ := vlet_ex hs
        refine g_iinc (pl := 2) (lv' := [(2, .int y8), (1, .int y7), (0, .ref h)]) C dX1_settle_98 rfl e_y8.symm (by decide) rfl ?_
        refine g_goto (tgt := 61) C dX1_settle_101 (by decide) ?_
        refine g_sub [2, 1, 0] rfl ?_
        exact ih y7 y8 u5 hs
set_option maxHeartbeats 4000000 in
set_option maxRecDepth 100000 in
theorem LX1_settle_9_w {cI : ClassId} {X : xT} (C : cx cI X 3 cX1_settle RX1 rmX1_settle) (h : Nat) (a_actors : Nat) (a_words : Nat) (a_costs : Nat) (a_least : Nat) (a_dealt : Nat) (f_used : Int32) (f_costs : Nat → Int32) (f_dealt : Nat → Int32) {z : (Nat → Int32) × (Nat → Int32)} (hR : ∀ (lv : List (Nat × Value)) (pc : Nat), decode cX1_settle pc = .ok (.return_, 1) → gg cI X 3 0 0 [oX1 h a_actors a_words a_costs a_least a_dealt f_used, aI cI a_costs 25 f_costs, aI cI a_least 32 z.1, aI cI a_dealt 5 z.2] lv pc []) : ∀ (n : Nat) (y_1 : Int32) (f_least : Nat → Int32), LX1_settle_9 f_costs f_dealt f_used n y_1 f_least = some z → gg cI X 3 0 0 [oX1 h a_actors a_words a_costs a_least a_dealt f_used, aI cI a_costs 25 f_costs, aI cI a_least 32 f_least, aI cI a_dealt 5 f_dealt] [(0, .ref h), (1, .int y_1)] 9 [] := by
  intro n
  induction n with
  | zero =>
    intro y_1 f_least hs
    exact nn_ok hs
  | succ n ih =>
    intro y_1 f_least hs
    rw [LX1_settle_9] at hs
    refine g_iload_n (pl := 1) C dX1_settle_9 rfl rfl ?_
    refine g_iconst (v := (nI 1)) C dX1_settle_10 rfl ?_
    refine g_aload_n (pl := 0) C dX1_settle_11 rfl rfl ?_
    refine g_get C fX1_27 0 rfl rfl dX1_settle_12 ?_
    refine g_ishl C dX1_settle_15 ?_
    refine g_icmp_ge (tgt := 50) C dX1_settle_16 (by decide) (fun c9 => ?_) (fun c9 => ?_)
    · replace hs := vi_t hs c9
      refine g_iconst (v := (nI 1)) C dX1_settle_50 rfl ?_
      refine g_aload_n (pl := 0) C dX1_settle_51 rfl rfl ?_
      refine g_get C fX1_27 0 rfl rfl dX1_settle_52 ?_
      refine g_ishl C dX1_settle_55 ?_
      refine g_iconst (v := (nI 1)) C dX1_settle_56 rfl ?_
      refine g_isub C dX1_settle_57 ?_
      obtain ⟨y10, e_y10, hs⟩ := vlet_ex hs
      refine g_topi e_y10 ?_
      refine g_istore_n (lv' := [(1, .int y10), (0, .ref h)]) C dX1_settle_58 rfl (by decide) rfl ?_
      refine g_iconst (v := (nI 0)) C dX1_settle_59 rfl ?_
      refine g_istore_n (lv' := [(2, .int (nI 0)), (1, .int y10), (0, .ref h)]) C dX1_settle_60 rfl (by decide) rfl ?_
      refine g_sub [2, 1, 0] rfl ?_
      exact LX1_settle_61_w C h a_actors a_words a_costs a_least a_dealt f_used f_costs f_least hR _ y10 (nI 0) f_dealt hs
    · replace hs := vi_f hs c9
      refine g_iload_n (pl := 1) C dX1_settle_19 rfl rfl ?_
      refine g_aload_n (pl := 0) C dX1_settle_20 rfl rfl ?_
      refine g_get C fX1_21 0 rfl rfl dX1_settle_21 ?_
      refine g_alen (v := (nI 32)) C 2 rfl rfl dX1_settle_24 ?_
      refine g_icmp_ge (tgt := 50) C dX1_settle_25 (by decide) (fun c11 => ?_) (fun c11 => ?_)
      · replace hs := vi_t hs c11
        refine g_iconst (v := (nI 1)) C dX1_settle_50 rfl ?_
        refine g_aload_n (pl := 0) C dX1_settle_51 rfl rfl ?_
        refine g_get C fX1_27 0 rfl rfl dX1_settle_52 ?_
        refine g_ishl C dX1_settle_55 ?_
        refine g_iconst (v := (nI 1)) C dX1_settle_56 rfl ?_
        refine g_isub C dX1_settle_57 ?_
        obtain ⟨y12, e_y12, hs⟩ := vlet_ex hs
        refine g_topi e_y12 ?_
        refine g_istore_n (lv' := [(1, .int y12), (0, .ref h)]) C dX1_settle_58 rfl (by decide) rfl ?_
        refine g_iconst (v := (nI 0)) C dX1_settle_59 rfl ?_
        refine g_istore_n (lv' := [(2, .int (nI 0)), (1, .int y12), (0, .ref h)]) C dX1_settle_60 rfl (by decide) rfl ?_
        refine g_sub [2, 1, 0] rfl ?_
        exact LX1_settle_61_w C h a_actors a_words a_costs a_least a_dealt f_used f_costs f_least hR _ y12 (nI 0) f_dealt hs
      · replace hs := vi_f hs c11
        refine g_aload_n (pl := 0) C dX1_settle_28 rfl rfl ?_
        refine g_get C fX1_21 0 rfl rfl dX1_settle_29 ?_
        refine g_iload_n (pl := 1) C dX1_settle_32 rfl rfl ?_
        refine g_aload_n (pl := 0) C dX1_settle_33 rfl rfl ?_
        refine g_iload_n (pl := 1) C dX1_settle_34 rfl rfl ?_
        refine g_aload_n (pl := 0) C dX1_settle_35 rfl rfl ?_
        refine g_iload_n (pl := 1) C dX1_settle_36 rfl rfl ?_
        obtain ⟨z13, e_z13, hs⟩ := vb_ok hs
        refine g_callV (ws' := [oX1 h a_actors a_words a_costs a_least a_dealt f_used, aI cI a_costs 25 f_costs, aI cI a_least 32 f_least, aI cI a_dealt 5 f_dealt]) (rest := [.int y_1, .ref h, .int y_1, .ref a_least]) (st' := [.int z13, .int y_1, .ref h, .int y_1, .ref a_least]) C mX1_35 q3_217 [.int y_1] (fun l D => cX1_firstOfBest_ct l D cI h a_actors a_words a_costs a_least a_dealt f_used f_costs f_least y_1 e_z13) ⟨⟨rfl, rfl⟩, Nat.le_of_ble_eq_true rfl, Nat.le_of_ble_eq_true rfl⟩ 0 rfl rfl rfl [0, 1, 2] rfl rfl rfl rfl rfl (Nat.le_of_ble_eq_true rfl) (Nat.zero_le _) (Nat.zero_le _) rfl dX1_settle_37 ?_
        obtain ⟨z14, e_z14, hs⟩ := vb_ok hs
        refine g_callV (ws' := [oX1 h a_actors a_words a_costs a_least a_dealt f_used, aI cI a_costs 25 f_costs, aI cI a_least 32 f_least, aI cI a_dealt 5 f_dealt]) (rest := [.int y_1, .ref a_least]) (st' := [.int z14, .int y_1, .ref a_least]) C mX1_38 q3_221 [.int y_1, .int z13] (fun l D => cX1_sumWith_ct l D cI h a_actors a_words a_costs a_least a_dealt f_used f_costs f_least y_1 z13 e_z14) ⟨⟨rfl, rfl⟩, Nat.le_of_ble_eq_true rfl, Nat.le_of_ble_eq_true rfl⟩ 0 rfl rfl rfl [0, 1, 2] rfl rfl rfl rfl rfl (Nat.le_of_ble_eq_true rfl) (Nat.zero_le _) (Nat.zero_le _) rfl dX1_settle_40 ?_
        obtain ⟨b15, hs⟩ := vg_ok hs
        obtain ⟨u16, e_u16, hs⟩ := vlet_ex hs
        refine g_iast (ws' := [oX1 h a_actors a_words a_costs a_least a_dealt f_used, aI cI a_costs 25 f_costs, aI cI a_least 32 u16, aI cI a_dealt 5 f_dealt]) C 2 rfl (vin_ok b15) (by rw [e_u16]; rfl) dX1_settle_43 ?_
        obtain ⟨y17, e_y17, hs⟩ := vlet_ex hs
        refine g_iinc (pl := 1) (lv' := [(1, .int y17), (0, .ref h)]) C dX1_settle_44 rfl e_y17.symm (by decide) rfl ?_
        refine g_goto (tgt := 9) C dX1_settle_47 (by decide) ?_
        refine g_sub [1, 0] rfl ?_
        exact ih y17 u16 hs
set_option maxHeartbeats 4000000 in
set_option maxRecDepth 100000 in
theorem cX1_settle_ct (l : Launch) (D : va_G) (cI : ClassId) (h : Nat) (a_actors : Nat) (a_words : Nat) (a_costs : Nat) (a_least : Nat) (a_dealt : Nat) (f_used : Int32) (f_costs : Nat → Int32) (f_least : Nat → Int32) (f_dealt : Nat → Int32) {z : (Nat → Int32) × (Nat → Int32)} (hs : sX1_settle f_costs f_least f_dealt f_used = some z) : ct l yX1_settle (.code yX1_settle cX1_settle 3 none :: gtb) rmX1_settle D cI [.ref h] [oX1 h a_actors a_words a_costs a_least a_dealt f_used, aI cI a_costs 25 f_costs, aI cI a_least 32 f_least, aI cI a_dealt 5 f_dealt] none [oX1 h a_actors a_words a_costs a_least a_dealt f_used, aI cI a_costs 25 f_costs, aI cI a_least 32 z.1, aI cI a_dealt 5 z.2] := by
  refine ct_ofV (own := RX1) (by decide +kernel) rfl (Nat.le_of_ble_eq_true rfl) (fun X C hD hR => ?_)
  unfold sX1_settle at hs
  show gg cI X 3 0 0 [oX1 h a_actors a_words a_costs a_least a_dealt f_used, aI cI a_costs 25 f_costs, aI cI a_least 32 f_least, aI cI a_dealt 5 f_dealt] [(0, .ref h)] 0 []
  refine g_aload_n (pl := 0) C dX1_settle_0 rfl rfl ?_
  refine g_get C fX1_21 0 rfl rfl dX1_settle_1 ?_
  refine g_iconst (v := (nI 0)) C dX1_settle_4 rfl ?_
  refine g_iconst (v := (nI 0)) C dX1_settle_5 rfl ?_
  obtain ⟨u18, e_u18, hs⟩ := vlet_ex hs
  refine g_iast (ws' := [oX1 h a_actors a_words a_costs a_least a_dealt f_used, aI cI a_costs 25 f_costs, aI cI a_least 32 u18, aI cI a_dealt 5 f_dealt]) C 2 rfl (vin_ok rfl) (by rw [e_u18]; rfl) dX1_settle_6 ?_
  refine g_iconst (v := (nI 1)) C dX1_settle_7 rfl ?_
  refine g_istore_n (lv' := [(1, .int (nI 1)), (0, .ref h)]) C dX1_settle_8 rfl (by decide) rfl ?_
  refine g_sub [1, 0] rfl ?_
  exact LX1_settle_9_w C h a_actors a_words a_costs a_least a_dealt f_used f_costs f_dealt hR _ (nI 1) u18 hs

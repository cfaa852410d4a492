/-! the String constant of CharadePost(): its length and its letters, by the JDK's own methods -/
def strTx : String := "w5,ab;w3,abc;w7,d;w2,de;w4,fa;w6,c;l01;l23;l4;l25;x7;h3,2;a0,0,20;a1,3,9;a2,4,30;a3,1,15;r2;"
def strB : List Int32 := [119, 53, 44, 97, 98, 59, 119, 51, 44, 97, 98, 99, 59, 119, 55, 44, 100, 59, 119, 50, 44, 100, 101, 59, 119, 52, 44, 102, 97, 59, 119, 54, 44, 99, 59, 108, 48, 49, 59, 108, 50, 51, 59, 108, 52, 59, 108, 50, 53, 59, 120, 55, 59, 104, 51, 44, 50, 59, 97, 48, 44, 48, 44, 50, 48, 59, 97, 49, 44, 51, 44, 57, 59, 97, 50, 44, 52, 44, 51, 48, 59, 97, 51, 44, 49, 44, 49, 53, 59, 114, 50, 59]
def str80 (j : Nat) : Int32 := (((strB.getD j 0) &&& 255).toUInt32 % 65536).toInt32
def ES (aS aV : Nat) : (Nat → Prop) → State → Prop := fun A U => vk_R RX8 80 strTx aS U ∧ vk_S 1 [92] [strB] (fun _ => aS) (fun _ => aV) A U U.heap ∧ va_Z "java/lang/String" "COMPACT_STRINGS" "Z" (.int 1) A U U.heap ∧ va_Zq "jdk/internal/util/Preconditions" "SIOOBE_FORMATTER" "Ljava/util/function/BiFunction;" A U U.heap
theorem ES_ok {aS aV : Nat} : EOk (ES aS aV) := by
  refine ⟨fun A U g mk a h => ?_, fun A B s U H locs hS hBA hU hW h => ?_⟩
  · obtain ⟨h1, h2, h3, h4⟩ := h
    exact ⟨vk_R.same (u := U) rfl h1, vk_S.moved (u := U) (Vm.Alike.refl U.vm) h2, va_Z.moved (u := U) (Vm.Alike.refl U.vm) h3, va_Zq.moved (u := U) (Vm.Alike.refl U.vm) h4⟩
  · obtain ⟨h1, h2, h3, h4⟩ := h
    subst hU
    exact ⟨vk_R.warm hW h1, ((h2.kept hS.2.1).narrow hBA).moved hW.alike, ((h3.kept hS.2.1).narrow hBA).moved hW.alike, ((h4.kept hS.2.1).narrow hBA).moved hW.alike⟩
def ctE (l : Launch) (y : MethodName) (Ts : List Cond) (rm : Room) (D : va_G) (cI : ClassId) (E : (Nat → Prop) → State → Prop) (av : List Value) (r : Option Value) : Prop :=
  ∀ sz : Nat, Met l y Ts rm (va_Pc av (fun U => U.heap.size = sz ∧ va_P D vwCl [] U.heap ∧ va_K D vwCl [(cI, .int)] U ∧ va_D (fun _ => True) [] ∧ nF U ∧ E (va_A [] sz) U)) (fun _ st oc t => (oc = .returned r ∧ va_P D vwCl [] t.heap) ∧ va_F (va_A [] sz) st t) 0 0 (va_A [] sz)
theorem ct_ofE {l : Launch} {y : MethodName} {rm : Room} {D : va_G} {cI : ClassId} {E : (Nat → Prop) → State → Prop} {av : List Value} {v : Int32} {ty : FieldType} {cc : ByteArray} {nL : Nat} {own : String} (hnar : narrow ty (.int v) = .int v)
    (hy : plainName y.cls = true) (ho : y.cls = own) (hn : (lg_sl av).length ≤ nL)
    (body : ∀ X : xT, cx cI X nL cc own rm → xE E X → (∀ (lv : List (Nat × Value)) (pc : Nat), decode cc pc = .ok (.ireturn, 1) → gg cI X nL 0 0 [] lv pc [.int v]) → gg cI X nL 0 0 [] (lv_args 0 av) 0 []) : ctE l y (.code y cc nL (some ty) :: gtb) rm D cI E av (some (.int v)) := by
  intro sz
  refine Met.ofW (cc := cc) (maxL := nL) (ret := some ty) hy rfl ?_
  intro p e s m args below meth c s₁ B hml hv
  obtain ⟨rfl, hsz, hP, hK, hD0, hN, hE⟩ := hv
  subst hsz
  have hts := atoms_spec (ws := .code y cc nL (some ty) :: gtb) B.pre
  have hown : s.vm.findClass own = some m.cls := by rw [← ho]; exact findClass_of_methodNamed B.named
  have hl := lv_entry av (n := nL) hn
  rw [lg_entry_eq]
  generalize hls : (lg_sl av ++ List.replicate (nL - (lg_sl av).length) Slot.unset).toArray = ls at hl
  have C0 : cx cI (p, l, e, rm, s, m, av.toArray, below, meth, c, MQ below (ctQ D (some (.int v)) [] [] s.heap.size) av.toArray s 0 0 (va_A [] s.heap.size), D, va_A [] s.heap.size) nL cc own rm :=
    ⟨B.exec, B.bytes, hml, hown, fun w h => hts w (List.mem_cons_of_mem _ h), hK, fun q h => Or.inr h, rfl, hN⟩
  refine body _ C0 hE ?_ s.heap [] ls hP (hD0.self) va_S.rf hl
  intro lv pc hd H locs ls hP hD hS hl
  exact W.zret C0.1 C0.2.1 B.returns hnar (fun t ht hW => ⟨⟨rfl, by rw [ht]; exact hP⟩, hS.F ht⟩) hS.2.2 hd B.notSynchronized
theorem ct_ofEV {l : Launch} {y : MethodName} {rm : Room} {D : va_G} {cI : ClassId} {E : (Nat → Prop) → State → Prop} {av : List Value} {cc : ByteArray} {nL : Nat} {own : String}
    (hy : plainName y.cls = true) (ho : y.cls = own) (hn : (lg_sl av).length ≤ nL)
    (body : ∀ X : xT, cx cI X nL cc own rm → xE E X → (∀ (lv : List (Nat × Value)) (pc : Nat), decode cc pc = .ok (.return_, 1) → gg cI X nL 0 0 [] lv pc []) → gg cI X nL 0 0 [] (lv_args 0 av) 0 []) : ctE l y (.code y cc nL none :: gtb) rm D cI E av none := by
  intro sz
  refine Met.ofW (cc := cc) (maxL := nL) (ret := none) hy rfl ?_
  intro p e s m args below meth c s₁ B hml hv
  obtain ⟨rfl, hsz, hP, hK, hD0, hN, hE⟩ := hv
  subst hsz
  have hts := atoms_spec (ws := .code y cc nL none :: gtb) B.pre
  have hown : s.vm.findClass own = some m.cls := by rw [← ho]; exact findClass_of_methodNamed B.named
  have hl := lv_entry av (n := nL) hn
  rw [lg_entry_eq]
  generalize hls : (lg_sl av ++ List.replicate (nL - (lg_sl av).length) Slot.unset).toArray = ls at hl
  have C0 : cx cI (p, l, e, rm, s, m, av.toArray, below, meth, c, MQ below (ctQ D none [] [] s.heap.size) av.toArray s 0 0 (va_A [] s.heap.size), D, va_A [] s.heap.size) nL cc own rm :=
    ⟨B.exec, B.bytes, hml, hown, fun w h => hts w (List.mem_cons_of_mem _ h), hK, fun q h => Or.inr h, rfl, hN⟩
  refine body _ C0 hE ?_ s.heap [] ls hP (hD0.self) va_S.rf hl
  intro lv pc hd H locs ls hP hD hS hl
  exact W.vret C0.1 C0.2.1 B.returns (fun t ht hW => ⟨⟨rfl, by rw [ht]; exact hP⟩, hS.F ht⟩) hS.2.2 hd B.notSynchronized
section STRS
variable {cI : ClassId} {X : xT} {nL k n : Nat} {cc : ByteArray} {own : String} {rm : Room} {ws : va_W} {lv : List (Nat × Value)} {pc : Nat} {rest : List Value} {aS aV : Nat}
theorem g_callES (C : cx cI X nL cc own rm) (hX : xE (ES aS aV) X) {idx nA : Nat} {y : MethodName} (V : vk own idx RJ0 y nA) {bytes : ByteArray} {maxL : Nat} {ret : Option FieldType} (K : Cond.code y bytes maxL ret ∈ gtb) {rc : Room} (As : List Value) {r : Option Value}
    (hM : ∀ (l : Launch) (D : va_G), ctE l y (.code y bytes maxL ret :: gtb) rc D cI (ES aS aV) (.ref aS :: As) r) (hR : (rc.cells = 0 ∧ rc.slots = 0) ∧ rc.frames + 1 ≤ rm.frames ∧ 8 + (maxL + 11) + rc.locals ≤ rm.locals) (hnA : As.length = nA) {st : List Value} (hst : st = As.reverse ++ .ref aS :: rest) (hroom : (rest.map fun v => v.category).sum ≤ 8) (hk : k ≤ rm.cells) (hn : n ≤ rm.slots) {st' : List Value} (hst' : r.toList ++ rest = st') (hd : decode cc pc = .ok (.invokevirtual idx, 3))
    (kk : gg cI X nL k n ws lv (pc + 3) st') : gg cI X nL k n ws lv pc st := by
  obtain ⟨p, l, e, R, s, m, args, below, meth, c, Q, D, A⟩ := X
  obtain ⟨hx, hb, hml, hown, hts, hK, hA, rfl, hN⟩ := C
  obtain ⟨v1, v2, v3, v4, v5, v6, v7, v8⟩ := V
  subst hst
  subst hst'
  intro H locs ls hP hD hS hl
  have cb : CallB R s args own idx y bytes maxL ret (.code y bytes maxL ret :: gtb) rc 0 0 nA := callB_of nA hts (gtb_in K) rfl hR.1.1 hR.1.2 (hts _ (by rw [v5]; exact v4)) (hts _ v1) ⟨v6, v7, v8⟩ hR.2
  have hF := va_free (wc := []) hD hS hA [] rfl
  have PV : PreV s H RJ0 aS (va_Pc (.ref aS :: As) (fun U => U.heap.size = H.size ∧ va_P D vwCl [] U.heap ∧ va_K D vwCl [(cI, .int)] U ∧ va_D (fun _ => True) [] ∧ nF U ∧ ES aS aV (va_A [] H.size) U)) As := by
    exact ⟨ctN_blind ES_ok.1, vk_recv (i := 0) hX.2.1 (by decide) hS, fun U hU hW => ⟨rfl, by rw [hU], fun k q h => by simp at h, va_K.moved hW.alike hK, ⟨fun i j p q h => by simp at h, fun k q h => by simp at h⟩, nF_warm hW hN, ES_ok.2 A _ s U H locs hS hF hU hW hX⟩⟩
  exact g_ran (a := (Value.ref aS :: As).toArray) [] (va_runV (As := As) (rest := rest) (C := RJ0) ⟨hx, hb, hml, hown, hts⟩ (hM l D H.size) ⟨cb, hts _ v2, hts _ v3⟩ PV rfl hnA hl.1 rfl (lv_room hroom) hd ⟨hk, hn⟩) hA hP hD hS hl rfl rfl (ws' := ws) (by cases ws <;> rfl) kk
theorem g_callEJ (C : cx cI X nL cc own rm) (hX : xE (ES aS aV) X) {idx nA : Nat} {y : MethodName} (V : sk own idx y nA) {bytes : ByteArray} {maxL : Nat} {ret : Option FieldType} (K : Cond.code y bytes maxL ret ∈ gtb) {rc : Room} (As : List Value) {r : Option Value}
    (hM : ∀ (l : Launch) (D : va_G), ctE l y (.code y bytes maxL ret :: gtb) rc D cI (ES aS aV) As r) (hR : (rc.cells = 0 ∧ rc.slots = 0) ∧ rc.frames + 1 ≤ rm.frames ∧ 8 + (maxL + 11) + rc.locals ≤ rm.locals) (hnA : As.length = nA) {st : List Value} (hst : st = As.reverse ++ rest) (hroom : (rest.map fun v => v.category).sum ≤ 8) (hk : k ≤ rm.cells) (hn : n ≤ rm.slots) {st' : List Value} (hst' : r.toList ++ rest = st') (hd : decode cc pc = .ok (.invokestatic idx, 3))
    (kk : gg cI X nL k n ws lv (pc + 3) st') : gg cI X nL k n ws lv pc st := by
  obtain ⟨p, l, e, R, s, m, args, below, meth, c, Q, D, A⟩ := X
  obtain ⟨hx, hb, hml, hown, hts, hK, hA, rfl, hN⟩ := C
  obtain ⟨v1, v2, v3, v6, v7, v8⟩ := V
  subst hst
  subst hst'
  intro H locs ls hP hD hS hl
  have cb : CallB R s args own idx y bytes maxL ret (.code y bytes maxL ret :: gtb) rc 0 0 nA := callB_of nA hts (gtb_in K) rfl hR.1.1 hR.1.2 (hts _ v3) (hts _ v1) ⟨v6, v7, v8⟩ hR.2
  have hF := va_free (wc := []) hD hS hA [] rfl
  have PV : PreS s H (va_Pc As (fun U => U.heap.size = H.size ∧ va_P D vwCl [] U.heap ∧ va_K D vwCl [(cI, .int)] U ∧ va_D (fun _ => True) [] ∧ nF U ∧ ES aS aV (va_A [] H.size) U)) As := by
    exact ⟨ctN_blind ES_ok.1, fun U hU hW => ⟨rfl, by rw [hU], fun k q h => by simp at h, va_K.moved hW.alike hK, ⟨fun i j p q h => by simp at h, fun k q h => by simp at h⟩, nF_warm hW hN, ES_ok.2 A _ s U H locs hS hF hU hW hX⟩⟩
  exact g_ran (a := As.toArray) [] (va_runS (As := As) (rest := rest) ⟨hx, hb, hml, hown, hts⟩ (hM l D H.size) ⟨cb, hts _ v2⟩ PV rfl hnA hl.1 rfl (lv_room hroom) hd ⟨hk, hn⟩) hA hP hD hS hl rfl rfl (ws' := ws) (by cases ws <;> rfl) kk
theorem g_strV (C : cx cI X nL cc RJ0 rm) (hX : xE (ES aS aV) X) (hd : decode cc pc = .ok (.getfield 9, 3)) (kk : gg cI X nL k n ws lv (pc + 3) (.ref aV :: rest)) : gg cI X nL k n ws lv pc (.ref aS :: rest) := by
  obtain ⟨p, l, e, R, s, m, args, below, meth, c, Q, D, A⟩ := X
  obtain ⟨hx, hb, hml, hown, hts, hK, hA, rfl, hN⟩ := C
  exact fun H locs ls hP hD hS hl => vk_getf hx hb (hX.2.1.1 0 (by decide)).2.2.1 hS hown (hts _ q6_35) (fun _ h9 => h9) hd (kk H locs ls hP hD hS hl)
theorem g_strC (C : cx cI X nL cc RJ0 rm) (hX : xE (ES aS aV) X) (hd : decode cc pc = .ok (.getfield 15, 3)) (kk : gg cI X nL k n ws lv (pc + 3) (.int 0 :: rest)) : gg cI X nL k n ws lv pc (.ref aS :: rest) := by
  obtain ⟨p, l, e, R, s, m, args, below, meth, c, Q, D, A⟩ := X
  obtain ⟨hx, hb, hml, hown, hts, hK, hA, rfl, hN⟩ := C
  exact fun H locs ls hP hD hS hl => vk_getf hx hb (hX.2.1.1 0 (by decide)).2.1 hS hown (hts _ q6_36) (fun _ h9 => h9) hd (kk H locs ls hP hD hS hl)
theorem g_strS (C : cx cI X nL cc RJ0 rm) (hX : xE (ES aS aV) X) (hd : decode cc pc = .ok (.getstatic 38, 3)) (kk : gg cI X nL k n ws lv (pc + 3) (.int 1 :: rest)) : gg cI X nL k n ws lv pc rest := by
  obtain ⟨p, l, e, R, s, m, args, below, meth, c, Q, D, A⟩ := X
  obtain ⟨hx, hb, hml, hown, hts, hK, hA, rfl, hN⟩ := C
  exact fun H locs ls hP hD hS hl => va_gets hx hb hX.2.2.1 hS hown (hts _ q1_207) (fun _ h9 => h9) hd (kk H locs ls hP hD hS hl)
theorem g_strF (C : cx cI X nL cc RJ0 rm) (hX : xE (ES aS aV) X) (hd : decode cc pc = .ok (.getstatic 1053, 3)) (kn : gg cI X nL k n ws lv (pc + 3) (.null :: rest)) (kk : ∀ t : Nat, gg cI X nL k n ws lv (pc + 3) (.ref t :: rest)) : gg cI X nL k n ws lv pc rest := by
  obtain ⟨p, l, e, R, s, m, args, below, meth, c, Q, D, A⟩ := X
  obtain ⟨hx, hb, hml, hown, hts, hK, hA, rfl, hN⟩ := C
  rcases hX.2.2.2 with ht | ⟨t, ht⟩
  · exact fun H locs ls hP hD hS hl => va_gets hx hb ht hS hown (hts _ q1_223) (fun _ h9 => h9) hd (kn H locs ls hP hD hS hl)
  · exact fun H locs ls hP hD hS hl => va_gets hx hb ht hS hown (hts _ q1_223) (fun _ h9 => h9) hd (kk t H locs ls hP hD hS hl)
theorem g_strL (C : cx cI X nL cc own rm) (hX : xE (ES aS aV) X) (hd : decode cc pc = .ok (.arraylength, 1)) (kk : gg cI X nL k n ws lv (pc + 1) (.int (nI 92) :: rest)) : gg cI X nL k n ws lv pc (.ref aV :: rest) := by
  obtain ⟨p, l, e, R, s, m, args, below, meth, c, Q, D, A⟩ := X
  obtain ⟨hx, hb, hml, hown, hts, hK, hA, rfl, hN⟩ := C
  exact fun H locs ls hP hD hS hl => va_tlen hx hb (hX.2.1.1 0 (by decide)).2.2.2 hS rfl hd (kk H locs ls hP hD hS hl)
theorem g_strB (C : cx cI X nL cc own rm) (hX : xE (ES aS aV) X) {i : Int32} (hin : vp_in i 92) (hd : decode cc pc = .ok (.baload, 1)) (kk : gg cI X nL k n ws lv (pc + 1) (.int (strB.getD i.toNatClampNeg 0) :: rest)) : gg cI X nL k n ws lv pc (.int i :: .ref aV :: rest) := by
  obtain ⟨p, l, e, R, s, m, args, below, meth, c, Q, D, A⟩ := X
  obtain ⟨hx, hb, hml, hown, hts, hK, hA, rfl, hN⟩ := C
  exact fun H locs ls hP hD hS hl => va_tb hx hb (hX.2.1.1 0 (by decide)).2.2.2 hS hin rfl hd (kk H locs ls hP hD hS hl)
theorem g_ldcS (C : cx cI X nL cc RX8 rm) (hX : xE (ES aS aV) X) (hd : decode cc pc = .ok (.ldc 80, 2)) (kk : gg cI X nL k n ws lv (pc + 2) (.ref aS :: rest)) : gg cI X nL k n ws lv pc rest := by
  obtain ⟨p, l, e, R, s, m, args, below, meth, c, Q, D, A⟩ := X
  obtain ⟨hx, hb, hml, hown, hts, hK, hA, rfl, hN⟩ := C
  exact fun H locs ls hP hD hS hl => va_ldcS hx hb hown hX.1 hd (kk H locs ls hP hD hS hl)
theorem g_i2c (C : cx cI X nL cc own rm) {x : Int32} (hd : decode cc pc = .ok (.i2c, 1)) (kk : gg cI X nL k n ws lv (pc + 1) (.int (x.toUInt32 % 65536).toInt32 :: rest)) : gg cI X nL k n ws lv pc (.int x :: rest) := by
  obtain ⟨p, l, e, R, s, m, args, below, meth, c, Q, D, A⟩ := X
  exact fun H locs ls hP hD hS hl => lv_i2c C.1 C.2.1 hd rfl (kk H locs ls hP hD hS hl)
end STRS
abbrev rmJ0_coder : Room := { frames := 0, cells := 0, slots := 0, locals := 0 }
theorem cJ0_coder_ct {aS aV : Nat} (l : Launch) (D : va_G) (cI : ClassId) : ctE l yJ0_coder_7d493 (.code yJ0_coder_7d493 cJ0_coder_7d493 1 (some .byte) :: gtb) rmJ0_coder D cI (ES aS aV) [.ref aS] (some (.int 0)) := by
  refine ct_ofE (own := RJ0) rfl (by decide +kernel) rfl (Nat.le_of_ble_eq_true rfl) (fun X C hE hR => ?_)
  show gg cI X 1 0 0 [] [(0, .ref aS)] 0 []
  refine g_strS C hE dJ0_coder_7d493_0 ?_
  refine g_if_eq (tgt := 13) C dJ0_coder_7d493_3 (by decide) (fun c => absurd c (by decide)) (fun c => ?_)
  refine g_aload_n (pl := 0) C dJ0_coder_7d493_6 rfl rfl ?_
  refine g_strC C hE dJ0_coder_7d493_7 ?_
  refine g_goto (tgt := 14) C dJ0_coder_7d493_10 (by decide) ?_
  exact hR _ _ dJ0_coder_7d493_14
abbrev rmJ0_length : Room := { frames := 1, cells := 0, slots := 0, locals := 20 }
theorem cJ0_length_ct {aS aV : Nat} (l : Launch) (D : va_G) (cI : ClassId) : ctE l yJ0_length_8abf5 (.code yJ0_length_8abf5 cJ0_length_8abf5 1 (some .int) :: gtb) rmJ0_length D cI (ES aS aV) [.ref aS] (some (.int (nI 92))) := by
  refine ct_ofE (own := RJ0) rfl (by decide +kernel) rfl (Nat.le_of_ble_eq_true rfl) (fun X C hE hR => ?_)
  show gg cI X 1 0 0 [] [(0, .ref aS)] 0 []
  refine g_aload_n (pl := 0) C dJ0_length_8abf5_0 rfl rfl ?_
  refine g_strV C hE dJ0_length_8abf5_1 ?_
  refine g_strL C hE dJ0_length_8abf5_4 ?_
  refine g_aload_n (pl := 0) C dJ0_length_8abf5_5 rfl rfl ?_
  refine g_callES (rest := [.int (nI 92)]) (st' := [.int 0, .int (nI 92)]) C hE mJ0_335 q1_206 [] (fun l D => cJ0_coder_ct l D cI) ⟨⟨rfl, rfl⟩, Nat.le_of_ble_eq_true rfl, Nat.le_of_ble_eq_true rfl⟩ rfl rfl (Nat.le_of_ble_eq_true rfl) (Nat.zero_le _) (Nat.zero_le _) rfl dJ0_length_8abf5_6 ?_
  refine g_ishr C dJ0_length_8abf5_9 ?_
  refine g_topi (y := nI 92) (by decide) ?_
  exact hR _ _ dJ0_length_8abf5_10
abbrev rmJ0_isLatin1 : Room := { frames := 0, cells := 0, slots := 0, locals := 0 }
theorem cJ0_isLatin1_ct {aS aV : Nat} (l : Launch) (D : va_G) (cI : ClassId) : ctE l yJ0_isLatin1_aae02 (.code yJ0_isLatin1_aae02 cJ0_isLatin1_aae02 1 (some .boolean) :: gtb) rmJ0_isLatin1 D cI (ES aS aV) [.ref aS] (some (.int 1)) := by
  refine ct_ofE (own := RJ0) rfl (by decide +kernel) rfl (Nat.le_of_ble_eq_true rfl) (fun X C hE hR => ?_)
  show gg cI X 1 0 0 [] [(0, .ref aS)] 0 []
  refine g_strS C hE dJ0_isLatin1_aae02_0 ?_
  refine g_if_eq (tgt := 17) C dJ0_isLatin1_aae02_3 (by decide) (fun c => absurd c (by decide)) (fun c => ?_)
  refine g_aload_n (pl := 0) C dJ0_isLatin1_aae02_6 rfl rfl ?_
  refine g_strC C hE dJ0_isLatin1_aae02_7 ?_
  refine g_if_ne (tgt := 17) C dJ0_isLatin1_aae02_10 (by decide) (fun c => absurd rfl c) (fun c => ?_)
  refine g_iconst (v := 1) C dJ0_isLatin1_aae02_13 rfl ?_
  refine g_goto (tgt := 18) C dJ0_isLatin1_aae02_14 (by decide) ?_
  exact hR _ _ dJ0_isLatin1_aae02_18
abbrev rmJ3_checkIndex : Room := { frames := 0, cells := 0, slots := 0, locals := 0 }
theorem cJ3_checkIndex_ct {aS aV : Nat} (l : Launch) (D : va_G) (cI : ClassId) {i : Int32} (t : Nat) (h : vin i 92 = true) : ctE l yJ3_checkIndex_8e157 (.code yJ3_checkIndex_8e157 cJ3_checkIndex_8e157 3 (some .int) :: gtb) rmJ3_checkIndex D cI (ES aS aV) [.int i, .int (nI 92), .ref t] (some (.int i)) := by
  have h0 : ¬ i < 0 ∧ i < nI 92 := by
    obtain ⟨j, hj, rfl⟩ := vp_in_of (vin_ok h) (by decide)
    exact ⟨nI_pos (by omega), nI_lt hj (by decide)⟩
  refine ct_ofE (own := RJ3) rfl (by decide +kernel) rfl (Nat.le_of_ble_eq_true rfl) (fun X C hE hR => ?_)
  show gg cI X 3 0 0 [] [(0, .int i), (1, .int (nI 92)), (2, .ref t)] 0 []
  refine g_iload_n (pl := 0) C dJ3_checkIndex_8e157_0 rfl rfl ?_
  refine g_if_lt (tgt := 9) C dJ3_checkIndex_8e157_1 (by decide) (fun c => absurd c h0.1) (fun c => ?_)
  refine g_iload_n (pl := 0) C dJ3_checkIndex_8e157_4 rfl rfl ?_
  refine g_iload_n (pl := 1) C dJ3_checkIndex_8e157_5 rfl rfl ?_
  refine g_icmp_lt (tgt := 16) C dJ3_checkIndex_8e157_6 (by decide) (fun c => ?_) (fun c => absurd h0.2 c)
  refine g_iload_n (pl := 0) C dJ3_checkIndex_8e157_16 rfl rfl ?_
  exact hR _ _ dJ3_checkIndex_8e157_17
theorem cJ3_checkIndexN_ct {aS aV : Nat} (l : Launch) (D : va_G) (cI : ClassId) {i : Int32} (h : vin i 92 = true) : ctE l yJ3_checkIndex_8e157 (.code yJ3_checkIndex_8e157 cJ3_checkIndex_8e157 3 (some .int) :: gtb) rmJ3_checkIndex D cI (ES aS aV) [.int i, .int (nI 92), .null] (some (.int i)) := by
  have h0 : ¬ i < 0 ∧ i < nI 92 := by
    obtain ⟨j, hj, rfl⟩ := vp_in_of (vin_ok h) (by decide)
    exact ⟨nI_pos (by omega), nI_lt hj (by decide)⟩
  refine ct_ofE (own := RJ3) rfl (by decide +kernel) rfl (Nat.le_of_ble_eq_true rfl) (fun X C hE hR => ?_)
  show gg cI X 3 0 0 [] [(0, .int i), (1, .int (nI 92)), (2, .null)] 0 []
  refine g_iload_n (pl := 0) C dJ3_checkIndex_8e157_0 rfl rfl ?_
  refine g_if_lt (tgt := 9) C dJ3_checkIndex_8e157_1 (by decide) (fun c => absurd c h0.1) (fun c => ?_)
  refine g_iload_n (pl := 0) C dJ3_checkIndex_8e157_4 rfl rfl ?_
  refine g_iload_n (pl := 1) C dJ3_checkIndex_8e157_5 rfl rfl ?_
  refine g_icmp_lt (tgt := 16) C dJ3_checkIndex_8e157_6 (by decide) (fun c => ?_) (fun c => absurd h0.2 c)
  refine g_iload_n (pl := 0) C dJ3_checkIndex_8e157_16 rfl rfl ?_
  exact hR _ _ dJ3_checkIndex_8e157_17
abbrev rmJ0_checkIndex : Room := { frames := 1, cells := 0, slots := 0, locals := 22 }
theorem cJ0_checkIndex_ct {aS aV : Nat} (l : Launch) (D : va_G) (cI : ClassId) {i : Int32} (h : vin i 92 = true) : ctE l yJ0_checkIndex_df160 (.code yJ0_checkIndex_df160 cJ0_checkIndex_df160 2 none :: gtb) rmJ0_checkIndex D cI (ES aS aV) [.int i, .int (nI 92)] none := by
  refine ct_ofEV (own := RJ0) (by decide +kernel) rfl (Nat.le_of_ble_eq_true rfl) (fun X C hE hR => ?_)
  show gg cI X 2 0 0 [] [(0, .int i), (1, .int (nI 92))] 0 []
  refine g_iload_n (pl := 0) C dJ0_checkIndex_df160_0 rfl rfl ?_
  refine g_iload_n (pl := 1) C dJ0_checkIndex_df160_1 rfl rfl ?_
  refine g_strF C hE dJ0_checkIndex_df160_2 ?_ (fun t => ?_)
  · refine g_callEJ (rest := []) (st' := [.int i]) C hE mJ0_1059 q1_227 [.int i, .int (nI 92), .null] (fun l D => cJ3_checkIndexN_ct l D cI h) ⟨⟨rfl, rfl⟩, Nat.le_of_ble_eq_true rfl, Nat.le_of_ble_eq_true rfl⟩ rfl rfl (Nat.le_of_ble_eq_true rfl) (Nat.zero_le _) (Nat.zero_le _) rfl dJ0_checkIndex_df160_5 ?_
    refine g_pop C dJ0_checkIndex_df160_8 rfl ?_
    exact hR _ _ dJ0_checkIndex_df160_9
  · refine g_callEJ (rest := []) (st' := [.int i]) C hE mJ0_1059 q1_227 [.int i, .int (nI 92), .ref t] (fun l D => cJ3_checkIndex_ct l D cI t h) ⟨⟨rfl, rfl⟩, Nat.le_of_ble_eq_true rfl, Nat.le_of_ble_eq_true rfl⟩ rfl rfl (Nat.le_of_ble_eq_true rfl) (Nat.zero_le _) (Nat.zero_le _) rfl dJ0_checkIndex_df160_5 ?_
    refine g_pop C dJ0_checkIndex_df160_8 rfl ?_
    exact hR _ _ dJ0_checkIndex_df160_9
abbrev rmJ1_charAt : Room := { frames := 2, cells := 0, slots := 0, locals := 43 }
theorem cJ1_charAt_ct {aS aV : Nat} (l : Launch) (D : va_G) (cI : ClassId) {i : Int32} (h : vin i 92 = true) : ctE l yJ1_charAt_3b067 (.code yJ1_charAt_3b067 cJ1_charAt_3b067 2 (some .char) :: gtb) rmJ1_charAt D cI (ES aS aV) [.ref aV, .int i] (some (.int (str80 i.toNatClampNeg))) := by
  refine ct_ofE (own := RJ1) (by unfold str80; exact pk_nc _) (by decide +kernel) rfl (Nat.le_of_ble_eq_true rfl) (fun X C hE hR => ?_)
  show gg cI X 2 0 0 [] [(0, .ref aV), (1, .int i)] 0 []
  refine g_iload_n (pl := 1) C dJ1_charAt_3b067_0 rfl rfl ?_
  refine g_aload_n (pl := 0) C dJ1_charAt_3b067_1 rfl rfl ?_
  refine g_strL C hE dJ1_charAt_3b067_2 ?_
  refine g_callEJ (rest := []) (st' := []) C hE mJ1_9 q1_222 [.int i, .int (nI 92)] (fun l D => cJ0_checkIndex_ct l D cI h) ⟨⟨rfl, rfl⟩, Nat.le_of_ble_eq_true rfl, Nat.le_of_ble_eq_true rfl⟩ rfl rfl (Nat.le_of_ble_eq_true rfl) (Nat.zero_le _) (Nat.zero_le _) rfl dJ1_charAt_3b067_3 ?_
  refine g_aload_n (pl := 0) C dJ1_charAt_3b067_6 rfl rfl ?_
  refine g_iload_n (pl := 1) C dJ1_charAt_3b067_7 rfl rfl ?_
  refine g_strB C hE (vin_ok h) dJ1_charAt_3b067_8 ?_
  refine g_sipush (v := 255) C dJ1_charAt_3b067_9 rfl ?_
  refine g_iand C dJ1_charAt_3b067_12 ?_
  refine g_i2c C dJ1_charAt_3b067_13 ?_
  exact hR _ _ dJ1_charAt_3b067_14
abbrev rmJ0_charAt : Room := { frames := 3, cells := 0, slots := 0, locals := 64 }
theorem cJ0_charAt_ct {aS aV : Nat} (l : Launch) (D : va_G) (cI : ClassId) {i : Int32} (h : vin i 92 = true) : ctE l yJ0_charAt_5068e (.code yJ0_charAt_5068e cJ0_charAt_5068e 2 (some .char) :: gtb) rmJ0_charAt D cI (ES aS aV) [.ref aS, .int i] (some (.int (str80 i.toNatClampNeg))) := by
  refine ct_ofE (own := RJ0) (by unfold str80; exact pk_nc _) (by decide +kernel) rfl (Nat.le_of_ble_eq_true rfl) (fun X C hE hR => ?_)
  show gg cI X 2 0 0 [] [(0, .ref aS), (1, .int i)] 0 []
  refine g_aload_n (pl := 0) C dJ0_charAt_5068e_0 rfl rfl ?_
  refine g_callES (rest := []) (st' := [.int 1]) C hE mJ0_492 q1_216 [] (fun l D => cJ0_isLatin1_ct l D cI) ⟨⟨rfl, rfl⟩, Nat.le_of_ble_eq_true rfl, Nat.le_of_ble_eq_true rfl⟩ rfl rfl (Nat.le_of_ble_eq_true rfl) (Nat.zero_le _) (Nat.zero_le _) rfl dJ0_charAt_5068e_1 ?_
  refine g_if_eq (tgt := 16) C dJ0_charAt_5068e_4 (by decide) (fun c => absurd c (by decide)) (fun c => ?_)
  refine g_aload_n (pl := 0) C dJ0_charAt_5068e_7 rfl rfl ?_
  refine g_strV C hE dJ0_charAt_5068e_8 ?_
  refine g_iload_n (pl := 1) C dJ0_charAt_5068e_11 rfl rfl ?_
  refine g_callEJ (rest := []) (st' := [.int (str80 i.toNatClampNeg)]) C hE mJ0_495 q1_219 [.ref aV, .int i] (fun l D => cJ1_charAt_ct l D cI h) ⟨⟨rfl, rfl⟩, Nat.le_of_ble_eq_true rfl, Nat.le_of_ble_eq_true rfl⟩ rfl rfl (Nat.le_of_ble_eq_true rfl) (Nat.zero_le _) (Nat.zero_le _) rfl dJ0_charAt_5068e_12 ?_
  exact hR _ _ dJ0_charAt_5068e_15


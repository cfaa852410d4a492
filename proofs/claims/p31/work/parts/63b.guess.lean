/-! values: a guess, and what is asked of one actor -/
theorem wgt_has {r : Nat → Int32} {kd gu : Int32} {x y w : Nat} {l : List Nat} (h : hasB gu (nI w)) : wgt r kd x y gu l w = nI 0 := by
  unfold wgt
  rw [if_pos h]
  exact fold_0 _ _
section GUESS
variable {W L A : Nat} {com len par lik : Nat → Int32} {fb hb pr : Int32} {r cells now : Nat → Int32} {a kd x co sh gu st : Nat} {sg : Nat → Nat}
set_option maxHeartbeats 2000000 in
theorem q_guessW (ws : Nat → Int32) (pd : Int32) (hB : RB W L A com len par lik fb hb pr r) (ha : a < 5) (hst : st = 0) (hb' : SAb W L kd x co sh gu st sg) (hv : SAv r cells now a kd x co sh gu st sg) : ∃ z, sX8_guessWord com len par lik (nI W) hb pr cells (nI a) = some z ∧ ∃ w, sX9_guesses r ws pd now (nI a) = some w ∧ z.1 = w.1 ∧ offA a cells z.2 now w.2.2.2 ∧ SA W L r z.2 w.2.2.2 a ∧ z.2 (a * 11 + 2) = cells (a * 11 + 2) - w.2.2.1 := by
  have hB' := hB
  obtain ⟨⟨W8, L6, A5⟩, ⟨h0, h1, h2, h3, h6⟩, ⟨p, q, p1, p2, q1, q2, h4, h5, hh⟩, ⟨c, cc1, cc2⟩, -⟩ := hB'
  rw [cc2] at h6
  subst hh cc2
  obtain ⟨ws', hw⟩ := e_next9 ws W8 L6 h0 h4 h5 ha hb' hv
  have hn := e_next3 hB p2 q2 ha hb' hv
  obtain ⟨b1, b2, b3, b4, b5, b6, b7, b8⟩ := hb'
  obtain ⟨⟨a1, a2⟩, ⟨c1, c2⟩, ⟨d1, d2⟩, ⟨e1, e2⟩, ⟨f1, f2⟩, ⟨g1, g2⟩, hsg⟩ := hv
  have hm : c * sh ≤ 9 * 5 := Nat.mul_le_mul cc1 b4
  unfold sX8_guessWord sX9_guesses sX0_habit sX0_price
  simp only [v_b]
  rw [hn, hw]
  simp only [v_b]
  cases hg : gb (wA r kd p q gu sh sg) W 0 none with
  | none =>
    rw [vi_p (show enc none = -4 from rfl), vi_p (show enc none = -4 from rfl), e_set (by omega), v_b]
    simp (disch := omega) only [v_b, v_l, v_i, v_g1, v_g, v_z0, v_z1, v_zif, nI_add, n_mul, n_sub, n_cl, n_le, n_lt, n_eq, n_eq0, n_le0, n_lt0, n_eqm, n_meq0, n_lem, z_add, v_t, v_f, Nat.reduceMul, Nat.reduceAdd, Nat.zero_add, Nat.add_zero, Nat.sub_zero, if_pos, if_neg]
    refine ⟨_, rfl, _, rfl, rfl, ⟨fun j hj => ?_, fun j hj => ?_⟩, ⟨kd, x, co, sh, gu, 2, sg, ⟨b1, b2, b3, b4, b5, by omega, fun q => by omega, b8⟩, ?_⟩, ?_⟩
    · simp (disch := omega) only [u_ne]
    · simp (disch := omega) only [u_ne]
    · refine ⟨⟨?_, a2⟩, ⟨?_, ?_⟩, ⟨?_, ?_⟩, ⟨?_, ?_⟩, ⟨?_, ?_⟩, ⟨?_, ?_⟩, fun k hk => ⟨?_, ?_⟩⟩ <;> simp (disch := omega) only [u_ne, u_eq] <;> first | assumption | exact (hsg k hk).1 | exact (hsg k hk).2
    · simp (disch := omega) only [u_ne]
      rw [nI_0, Int32.sub_zero]
  | some u =>
    have hu := gb_lt _ W 0 none (fun v e => by cases e) u hg
    rw [show enc (some u) = nI u from rfl, vi_n (m4 (show u < 2147483648 by omega)), vi_n (m4 (show u < 2147483648 by omega)), e_cell (by omega), v_b, c1]
    by_cases k1 : u = x
    · rw [vi_p (show nI u = nI x by rw [k1])]
      by_cases k2 : co < c * sh
      · simp (disch := omega) only [v_b, v_l, v_i, v_g1, v_g, v_z0, v_z1, v_zif, nI_add, n_mul, n_sub, n_cl, n_le, n_lt, n_eq, n_eq0, n_le0, n_lt0, n_eqm, n_meq0, n_lem, z_add, v_t, v_f, Nat.reduceMul, Nat.reduceAdd, Nat.zero_add, Nat.add_zero, Nat.sub_zero, if_pos, if_neg, sX4_canPay, e_cell, e_set, d1, d2, e1, e2, c1, c2, h6, u_ne]
        refine ⟨_, rfl, _, rfl, rfl, ⟨fun j hj => ?_, fun j hj => ?_⟩, ⟨kd, x, co, sh, gu, 2, sg, ⟨b1, b2, b3, b4, b5, by omega, fun q => by omega, b8⟩, ?_⟩, ?_⟩
        · simp (disch := omega) only [u_ne]
        · simp (disch := omega) only [u_ne]
        · refine ⟨⟨?_, a2⟩, ⟨?_, ?_⟩, ⟨?_, ?_⟩, ⟨?_, ?_⟩, ⟨?_, ?_⟩, ⟨?_, ?_⟩, fun k hk => ⟨?_, ?_⟩⟩ <;> simp (disch := omega) only [u_ne, u_eq] <;> first | assumption | exact (hsg k hk).1 | exact (hsg k hk).2
        · simp (disch := omega) only [u_ne]
          rw [nI_0, Int32.sub_zero]
          exact d1
      · simp (disch := omega) only [v_b, v_l, v_i, v_g1, v_g, v_z0, v_z1, v_zif, nI_add, n_mul, n_sub, n_cl, n_le, n_lt, n_eq, n_eq0, n_le0, n_lt0, n_eqm, n_meq0, n_lem, z_add, v_t, v_f, Nat.reduceMul, Nat.reduceAdd, Nat.zero_add, Nat.add_zero, Nat.sub_zero, if_pos, if_neg, sX4_canPay, sX4_payAndPass, e_cell, e_set, d1, d2, e1, e2, c1, c2, h6, u_ne]
        refine ⟨_, rfl, _, rfl, rfl, ⟨fun j hj => ?_, fun j hj => ?_⟩, ⟨kd, x, co - c * sh, sh, gu, 1, sg, ⟨b1, b2, by omega, b4, b5, by omega, fun q => by omega, b8⟩, ?_⟩, ?_⟩
        · simp (disch := omega) only [u_ne]
        · simp (disch := omega) only [u_ne]
        · refine ⟨⟨?_, a2⟩, ⟨?_, ?_⟩, ⟨?_, ?_⟩, ⟨?_, ?_⟩, ⟨?_, ?_⟩, ⟨?_, ?_⟩, fun k hk => ⟨?_, ?_⟩⟩ <;> simp (disch := omega) only [u_ne, u_eq] <;> first | assumption | exact (hsg k hk).1 | exact (hsg k hk).2
        · simp (disch := omega) only [u_ne, u_eq, d1, n_sub]
    · rw [vi_n (show ¬ nI u = nI x from by rw [n_eq (by omega) (by omega)]; exact k1)]
      have hnb : ¬ hasB (nI gu) (nI u) := fun e => by
        have h2' := hu.2
        unfold wA at h2'
        rw [wgt_has e, i_nI _ (by decide)] at h2'
        omega
      rcases bitsF gu b5 u (by omega) with ⟨e, _⟩ | ⟨_, r2, r3, r4, r5⟩
      · exact absurd e hnb
      · have b7' := b7 hst
        unfold sX4_addWrongGuess
        rw [e_cell (by omega), v_b, f1, r2, e_set (by omega), v_b, e_cell (by omega), v_b, u_eq rfl, pcJ _ r4, v_b]
        by_cases k2 : pc gu = 2
        · simp (disch := omega) only [v_b, v_l, v_i, v_g1, v_g, v_z0, v_z1, v_zif, nI_add, n_mul, n_sub, n_cl, n_le, n_lt, n_eq, n_eq0, n_le0, n_lt0, n_eqm, n_meq0, n_lem, z_add, v_t, v_f, Nat.reduceMul, Nat.reduceAdd, Nat.zero_add, Nat.add_zero, Nat.sub_zero, if_pos, if_neg, c2, f2, r2, r3, e_set, u_ne, u_eq, pc9]
          refine ⟨_, rfl, _, rfl, rfl, ⟨fun j hj => ?_, fun j hj => ?_⟩, ⟨kd, x, co, sh, gu + 2 ^ u, 2, sg, ⟨b1, b2, b3, b4, r4, by omega, fun q => by omega, b8⟩, ?_⟩, ?_⟩
          · simp (disch := omega) only [u_ne]
          · simp (disch := omega) only [u_ne]
          · refine ⟨⟨?_, a2⟩, ⟨?_, ?_⟩, ⟨?_, ?_⟩, ⟨?_, ?_⟩, ⟨?_, ?_⟩, ⟨?_, ?_⟩, fun k hk => ⟨?_, ?_⟩⟩ <;> simp (disch := omega) only [u_ne, u_eq] <;> first | assumption | exact (hsg k hk).1 | exact (hsg k hk).2
          · simp (disch := omega) only [u_ne]
            rw [nI_0, Int32.sub_zero]
        · simp (disch := omega) only [v_b, v_l, v_i, v_g1, v_g, v_z0, v_z1, v_zif, nI_add, n_mul, n_sub, n_cl, n_le, n_lt, n_eq, n_eq0, n_le0, n_lt0, n_eqm, n_meq0, n_lem, z_add, v_t, v_f, Nat.reduceMul, Nat.reduceAdd, Nat.zero_add, Nat.add_zero, Nat.sub_zero, if_pos, if_neg, c2, f2, r2, r3, e_set, u_ne, u_eq, pc9]
          refine ⟨_, rfl, _, rfl, rfl, ⟨fun j hj => ?_, fun j hj => ?_⟩, ⟨kd, x, co, sh, gu + 2 ^ u, 0, sg, ⟨b1, b2, b3, b4, r4, by omega, fun q => by omega, b8⟩, ?_⟩, ?_⟩
          · simp (disch := omega) only [u_ne]
          · simp (disch := omega) only [u_ne]
          · subst hst
            refine ⟨⟨?_, a2⟩, ⟨?_, ?_⟩, ⟨?_, ?_⟩, ⟨?_, ?_⟩, ⟨?_, ?_⟩, ⟨?_, ?_⟩, fun k hk => ⟨?_, ?_⟩⟩ <;> simp (disch := omega) only [u_ne, u_eq] <;> first | assumption | exact (hsg k hk).1 | exact (hsg k hk).2
          · simp (disch := omega) only [u_ne]
            rw [nI_0, Int32.sub_zero]
end GUESS
section ASKED
variable {W L A : Nat} {com len par lik : Nat → Int32} {fb hb pr : Int32} {r sc gn : Nat → Int32}
/-- an actor by his number, or none -/
theorem q_actor (hB : RB W L A com len par lik fb hb pr r) (hS : SR W L A r sc gn) (x y : Int32) : ∃ z, sX8_actor (nI A) sc x y = some z ∧ sX9_actor_ r gn x y = some z := by
  obtain ⟨⟨W8, L6, A5⟩, ⟨h0, h1, h2, h3, h6⟩, -⟩ := hB
  unfold sX8_actor sX9_actor_
  rw [e_isActor3 A5, e_isActor9 A5 h2, v_b, v_b]
  by_cases h : 0 ≤ x.toInt ∧ x.toInt < A
  · rw [if_pos h, vi_n n10, vi_n n10]
    obtain ⟨a, ha, rfl⟩ := n_ofN (N := A) h.1 h.2
    obtain ⟨kd, x, co, sh, gu, st, sg, -, ⟨a1, a2⟩, ⟨c1, c2⟩, ⟨d1, d2⟩, ⟨e1, e2⟩, ⟨f1, f2⟩, ⟨g1, g2⟩, hsg⟩ := hS.1 a ha
    by_cases g : 0 ≤ y.toInt ∧ y.toInt ≤ 5
    · obtain ⟨k, hk, rfl⟩ := n_ofN (x := y) (N := 6) g.1 (by omega)
      rcases (show k = 0 ∨ k = 1 ∨ k = 2 ∨ k = 3 ∨ k = 4 ∨ k = 5 by omega) with rfl | rfl | rfl | rfl | rfl | rfl
      · simp (disch := omega) only [v_b, v_l, v_i, v_g1, v_g, v_z0, v_z1, v_zif, nI_add, n_mul, n_sub, n_cl, n_le, n_lt, n_eq, n_eq0, n_le0, n_lt0, n_eqm, n_meq0, n_lem, z_add, v_t, v_f, Nat.reduceMul, Nat.reduceAdd, Nat.zero_add, Nat.add_zero, Nat.sub_zero, if_pos, if_neg, e_cell, a1, a2]
        exact ⟨_, rfl, rfl⟩
      · simp (disch := omega) only [v_b, v_l, v_i, v_g1, v_g, v_z0, v_z1, v_zif, nI_add, n_mul, n_sub, n_cl, n_le, n_lt, n_eq, n_eq0, n_le0, n_lt0, n_eqm, n_meq0, n_lem, z_add, v_t, v_f, Nat.reduceMul, Nat.reduceAdd, Nat.zero_add, Nat.add_zero, Nat.sub_zero, if_pos, if_neg, e_cell, c1, Nat.reduceSub, c2]
        exact ⟨_, rfl, rfl⟩
      · simp (disch := omega) only [v_b, v_l, v_i, v_g1, v_g, v_z0, v_z1, v_zif, nI_add, n_mul, n_sub, n_cl, n_le, n_lt, n_eq, n_eq0, n_le0, n_lt0, n_eqm, n_meq0, n_lem, z_add, v_t, v_f, Nat.reduceMul, Nat.reduceAdd, Nat.zero_add, Nat.add_zero, Nat.sub_zero, if_pos, if_neg, e_cell, d1, Nat.reduceSub, d2]
        exact ⟨_, rfl, rfl⟩
      · simp (disch := omega) only [v_b, v_l, v_i, v_g1, v_g, v_z0, v_z1, v_zif, nI_add, n_mul, n_sub, n_cl, n_le, n_lt, n_eq, n_eq0, n_le0, n_lt0, n_eqm, n_meq0, n_lem, z_add, v_t, v_f, Nat.reduceMul, Nat.reduceAdd, Nat.zero_add, Nat.add_zero, Nat.sub_zero, if_pos, if_neg, e_cell, e1, Nat.reduceSub, e2]
        exact ⟨_, rfl, rfl⟩
      · simp (disch := omega) only [v_b, v_l, v_i, v_g1, v_g, v_z0, v_z1, v_zif, nI_add, n_mul, n_sub, n_cl, n_le, n_lt, n_eq, n_eq0, n_le0, n_lt0, n_eqm, n_meq0, n_lem, z_add, v_t, v_f, Nat.reduceMul, Nat.reduceAdd, Nat.zero_add, Nat.add_zero, Nat.sub_zero, if_pos, if_neg, e_cell, f1, Nat.reduceSub, f2]
        exact ⟨_, rfl, rfl⟩
      · simp (disch := omega) only [v_b, v_l, v_i, v_g1, v_g, v_z0, v_z1, v_zif, nI_add, n_mul, n_sub, n_cl, n_le, n_lt, n_eq, n_eq0, n_le0, n_lt0, n_eqm, n_meq0, n_lem, z_add, v_t, v_f, Nat.reduceMul, Nat.reduceAdd, Nat.zero_add, Nat.add_zero, Nat.sub_zero, if_pos, if_neg, e_cell, g1, Nat.reduceSub, g2]
        exact ⟨_, rfl, rfl⟩
    · have hn : ∀ k, k ≤ 5 → ¬ y = nI k := fun k hk e => g (by rw [e, i_nI _ (by omega)]; omega)
      rw [vi_n (hn 0 (by omega)), vi_n (hn 1 (by omega)), vi_n (hn 2 (by omega)), vi_n (hn 3 (by omega)), vi_n (hn 4 (by omega)), vi_n (hn 5 (by omega))]
      by_cases q : y < 0
      · rw [vi_p q]
        exact ⟨_, rfl, rfl⟩
      · rw [vi_n q, vi_p (show nI 5 < y from by rw [i_lt, i_0] at q; rw [i_lt, i_nI _ (by decide)]; omega)]
        exact ⟨_, rfl, rfl⟩
  · rw [if_neg h, vi_p nI_0, vi_p nI_0]
    exact ⟨_, rfl, rfl⟩
theorem q_shown (hB : RB W L A com len par lik fb hb pr r) (hS : SR W L A r sc gn) (x y : Int32) : ∃ z, sX8_shown (nI A) sc x y = some z ∧ sX9_shown r gn x y = some z := by
  obtain ⟨⟨W8, L6, A5⟩, ⟨h0, h1, h2, h3, h6⟩, -⟩ := hB
  unfold sX8_shown sX9_shown
  rw [e_isActor3 A5, e_isActor9 A5 h2, v_b, v_b]
  by_cases h : 0 ≤ x.toInt ∧ x.toInt < A
  · rw [if_pos h, vi_n n10, vi_n n10]
    obtain ⟨a, ha, rfl⟩ := n_ofN (N := A) h.1 h.2
    obtain ⟨kd, x, co, sh, gu, st, sg, ⟨b1, b2, b3, b4, b5, b6, b7, b8⟩, ⟨a1, a2⟩, ⟨c1, c2⟩, ⟨d1, d2⟩, ⟨e1, e2⟩, ⟨f1, f2⟩, ⟨g1, g2⟩, hsg⟩ := hS.1 a ha
    by_cases g : 0 ≤ y
    · rw [vi_p g, vi_p g, e_cell (by omega), v_b, e1, nI_add, v_g (by omega) (by omega), n_cl (by omega), e2]
      by_cases q : nI sh ≤ y
      · rw [vi_p q, vi_p q]
        exact ⟨_, rfl, rfl⟩
      · rw [vi_n q, vi_n q]
        rw [i_le, i_0] at g
        rw [i_le, i_nI _ (by omega)] at q
        obtain ⟨k, hk, rfl⟩ := n_ofN (x := y) (N := sh) g (by omega)
        obtain ⟨s1, s2⟩ := hsg k (by omega)
        simp (disch := omega) only [v_b, v_l, v_i, v_g1, v_g, v_z0, v_z1, v_zif, nI_add, n_mul, n_sub, n_cl, n_le, n_lt, n_eq, n_eq0, n_le0, n_lt0, n_eqm, n_meq0, n_lem, z_add, v_t, v_f, Nat.reduceMul, Nat.reduceAdd, Nat.zero_add, Nat.add_zero, Nat.sub_zero, if_pos, if_neg, e_sign, s1, s2]
        exact ⟨_, rfl, rfl⟩
    · rw [vi_n g, vi_n g]
      exact ⟨_, rfl, rfl⟩
  · rw [if_neg h, vi_p nI_0, vi_p nI_0]
    exact ⟨_, rfl, rfl⟩
theorem q_weight (ws : Nat → Int32) (hB : RB W L A com len par lik fb hb pr r) (hS : SR W L A r sc gn) (x y : Int32) : ∃ z, sX8_weight com len par lik (nI W) (nI A) hb sc x y = some z ∧ ∃ w, sX9_weight r gn ws x y = some w ∧ z = w.1 := by
  have hB' := hB
  obtain ⟨⟨W8, L6, A5⟩, ⟨h0, h1, h2, h3, h6⟩, ⟨p, q, p1, p2, q1, q2, h4, h5, hh⟩, -⟩ := hB'
  subst hh
  unfold sX8_weight sX9_weight sX0_habit
  rw [e_isActor3 A5, e_isActor9 A5 h2, e_isWord3 W8, e_isWord9 W8 h0]
  simp only [v_b]
  by_cases h : 0 ≤ x.toInt ∧ x.toInt < A
  · rw [if_pos h, vi_n n10, vi_n n10]
    by_cases g : 0 ≤ y.toInt ∧ y.toInt < W
    · rw [if_pos g, vi_n n10, vi_n n10]
      obtain ⟨a, ha, rfl⟩ := n_ofN (N := A) h.1 h.2
      obtain ⟨w, hw, rfl⟩ := n_ofN (N := W) g.1 g.2
      obtain ⟨kd, x, co, sh, gu, st, sg, hb', hv⟩ := hS.1 a ha
      obtain ⟨ws', w1, w2⟩ := e_wA9 ws W8 L6 h0 h4 h5 (show a < 5 by omega) hb' hv
      rw [e_wA3 hB p2 q2 (show a < 5 by omega) hw hb' hv, v_b, w1, v_b, v_g (by omega) (by omega), n_cl (by omega)]
      exact ⟨_, rfl, _, rfl, (w2 w hw).symm⟩
    · rw [if_neg g, vi_p nI_0, vi_p nI_0]
      exact ⟨_, rfl, _, rfl, rfl⟩
  · rw [if_neg h, vi_p nI_0, vi_p nI_0]
    exact ⟨_, rfl, _, rfl, rfl⟩
theorem q_next (ws : Nat → Int32) (hB : RB W L A com len par lik fb hb pr r) (hS : SR W L A r sc gn) (x : Int32) : ∃ z, sX8_next com len par lik (nI W) (nI A) hb sc x = some z ∧ ∃ w, sX9_next r gn ws x = some w ∧ z = w.1 := by
  have hB' := hB
  obtain ⟨⟨W8, L6, A5⟩, ⟨h0, h1, h2, h3, h6⟩, ⟨p, q, p1, p2, q1, q2, h4, h5, hh⟩, -⟩ := hB'
  subst hh
  unfold sX8_next sX9_next sX0_habit
  rw [e_isActor3 A5, e_isActor9 A5 h2]
  simp only [v_b]
  by_cases h : 0 ≤ x.toInt ∧ x.toInt < A
  · rw [if_pos h, vi_n n10, vi_n n10]
    obtain ⟨a, ha, rfl⟩ := n_ofN (N := A) h.1 h.2
    obtain ⟨kd, x, co, sh, gu, st, sg, hb', hv⟩ := hS.1 a ha
    obtain ⟨ws', w1⟩ := e_next9 ws W8 L6 h0 h4 h5 (show a < 5 by omega) hb' hv
    rw [e_waits4 (show a < 5 by omega) hb'.2.2.2.2.2.1 hv.2.2.2.2.2.1.1, e_waits9 (show a < 5 by omega) hb'.2.2.2.2.2.1 hv.2.2.2.2.2.1.2, v_b, v_b]
    by_cases g : st = 0
    · rw [if_pos g, vi_n n10, vi_n n10, e_next3 hB p2 q2 (show a < 5 by omega) hb' hv, v_b, w1, v_b]
      exact ⟨_, rfl, _, rfl, rfl⟩
    · rw [if_neg g, vi_p nI_0, vi_p nI_0]
      exact ⟨_, rfl, _, rfl, rfl⟩
  · rw [if_neg h, vi_p nI_0, vi_p nI_0]
    exact ⟨_, rfl, _, rfl, rfl⟩
end ASKED

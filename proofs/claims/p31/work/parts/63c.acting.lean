/-! values: the calls that act, with what is undone behind them -/
def ShR (W L A : Nat) (post rows past : Nat → Int32) (k : Nat) : Prop := ∀ i, i < k → SR W L A post (fun j => rows (i * 55 + j)) (fun j => past (50 * i + j))
section ACTING
variable {W L A : Nat} {com len par lik : Nat → Int32} {fb hb pr : Int32} {r sc gn rows past : Nat → Int32}
theorem ShR_put {k : Nat} (hA : A ≤ 5) (h : ShR W L A r rows past k) (hS : SR W L A r sc gn) : ShR W L A r (va_cpy sc rows 0 (k * 55) 55) (va_cpy gn past 0 (50 * k) 50) (k + 1) := by
  intro i hi
  by_cases q : i = k
  · subst q
    refine SR_congr hA hS (fun j hj => ?_) (fun j hj => ?_)
    · rw [cpy_in (by omega) (by omega)]; congr 1; omega
    · rw [cpy_in (by omega) (by omega)]; congr 1; omega
  · refine SR_congr hA (h i (by omega)) (fun j hj => ?_) (fun j hj => ?_)
    · rw [cpy_out (by omega)]
    · rw [cpy_out (by omega)]
theorem ShR_shift (hA : A ≤ 5) (h : ShR W L A r rows past 8) : ShR W L A r (va_cpy rows rows 55 0 385) (va_cpy past past 50 0 350) 7 := by
  intro i hi
  refine SR_congr hA (h (i + 1) (by omega)) (fun j hj => ?_) (fun j hj => ?_)
  · rw [cpy_in (by omega) (by omega)]; congr 1; omega
  · rw [cpy_in (by omega) (by omega)]; congr 1; omega
theorem ShR_take {k : Nat} (hA : A ≤ 5) (hk : 1 ≤ k) (h : ShR W L A r rows past k) : SR W L A r (va_cpy rows sc ((k - 1) * 55) 0 55) (va_cpy past gn (50 * (k - 1)) 0 50) := by
  refine SR_congr hA (h (k - 1) (by omega)) (fun j hj => ?_) (fun j hj => ?_)
  · rw [cpy_in (by omega) (by omega)]; congr 1
  · rw [cpy_in (by omega) (by omega)]; congr 1
theorem ShR_less {k k' : Nat} (hk : k' ≤ k) (h : ShR W L A r rows past k) : ShR W L A r rows past k' := fun i hi => h i (by omega)
theorem q_put {k : Nat} (hA : A ≤ 5) (hk : k ≤ 8) (h : ShR W L A r rows past k) (hS : SR W L A r sc gn) : ∃ z, sX7_put 440 rows (nI 8) (nI k) sc = some z ∧ ∃ w, sX9_remember gn past (nI k) = some w ∧ ∃ k', k' ≤ 8 ∧ z.2 = nI k' ∧ w.2 = nI k' ∧ ShR W L A r z.1 w.1 k' := by
  by_cases q : k = 8
  · subst q
    have e := e_putF (rows := rows) (cells := sc) (M := 8) (by omega) (by omega)
    rw [show 8 * 55 = 440 from rfl, show (8 - 1) * 55 = 385 from rfl] at e
    refine ⟨_, e, _, e_remF, 8, by omega, rfl, rfl, ?_⟩
    exact ShR_put (k := 7) hA (ShR_shift hA h) hS
  · have e := e_put (rows := rows) (cells := sc) (M := 8) (k := k) (by omega) (by omega)
    rw [show 8 * 55 = 440 from rfl] at e
    exact ⟨_, e, _, e_rem (by omega), k + 1, by omega, rfl, rfl, ShR_put hA h hS⟩
theorem q_show {k : Nat} (hB : RB W L A com len par lik fb hb pr r) (hk : k ≤ 8) (h : ShR W L A r rows past k) (hS : SR W L A r sc gn) (x y : Int32) : ∃ z, sX8_show 440 (nI L) (nI A) fb sc rows (nI 8) (nI k) x y = some z ∧ ∃ w, sX9_show r gn past (nI k) x y = some w ∧ z.1 = w.1 ∧ SR W L A r z.2.1 w.2.1 ∧ ∃ k', k' ≤ 8 ∧ z.2.2.2 = nI k' ∧ w.2.2.2 = nI k' ∧ ShR W L A r z.2.2.1 w.2.2.1 k' := by
  obtain ⟨⟨W8, L6, A5⟩, ⟨h0, h1, h2, h3, h6⟩, -⟩ := hB
  unfold sX8_show sX9_show
  rw [e_isActor3 A5, e_isActor9 A5 h2, v_b, v_b]
  by_cases g : 0 ≤ x.toInt ∧ x.toInt < A
  · rw [if_pos g, vi_n n10, vi_n n10, e_isSign3 L6, e_isSign9 L6 h1, v_b, v_b]
    by_cases g2 : 0 ≤ y.toInt ∧ y.toInt < ((9 + L : Nat) : Int)
    · rw [if_pos g2, vi_n n10, vi_n n10]
      obtain ⟨a, ha, rfl⟩ := n_ofN (N := A) g.1 g.2
      obtain ⟨s, hs, rfl⟩ := n_ofN (N := 9 + L) g2.1 g2.2
      obtain ⟨kd, x, co, sh, gu, st, sg, hb', hv⟩ := hS.1 a ha
      rw [e_can4 (show a < 5 by omega) hb'.2.2.2.2.2.1 hb'.2.2.2.1 hv.2.2.2.1.1 hv.2.2.2.2.2.1.1, e_can9 (show a < 5 by omega) hb'.2.2.2.2.2.1 hb'.2.2.2.1 hv.2.2.2.1.2 hv.2.2.2.2.2.1.2, v_b, v_b]
      by_cases c : st = 0 ∧ sh < 5
      · rw [if_pos c, vi_n n10, vi_n n10]
        obtain ⟨z, z1, w, w1, k', k1, k2, k3, k4⟩ := q_put A5 hk h hS
        obtain ⟨z2, z3, w2, w3, e1, e2, e3, -⟩ := q_shows h3 (show a < 5 by omega) hs c.2 hb' hv
        rw [z1, w1, v_b, v_b, z3, w3, v_b, v_b]
        exact ⟨_, rfl, _, rfl, e1, SR_off A5 ha e2 hS e3, k', k1, k2, k3, k4⟩
      · rw [if_neg c, vi_p nI_0, vi_p nI_0]
        exact ⟨_, rfl, _, rfl, rfl, hS, k, hk, rfl, rfl, h⟩
    · rw [if_neg g2, vi_p nI_0, vi_p nI_0]
      exact ⟨_, rfl, _, rfl, rfl, hS, k, hk, rfl, rfl, h⟩
  · rw [if_neg g, vi_p nI_0, vi_p nI_0]
    exact ⟨_, rfl, _, rfl, rfl, hS, k, hk, rfl, rfl, h⟩
theorem q_guess {k : Nat} (ws : Nat → Int32) (pd : Int32) (hB : RB W L A com len par lik fb hb pr r) (hk : k ≤ 8) (h : ShR W L A r rows past k) (hS : SR W L A r sc gn) (x : Int32) : ∃ z, sX8_guess 440 com len par lik (nI W) (nI A) hb pr sc rows (nI 8) (nI k) x = some z ∧ ∃ w, sX9_guess r gn past (nI k) ws pd x = some w ∧ z.1 = w.1 ∧ SR W L A r z.2.1 w.2.1 ∧ ∃ k', k' ≤ 8 ∧ z.2.2.2 = nI k' ∧ w.2.2.2.1 = nI k' ∧ ShR W L A r z.2.2.1 w.2.2.1 k' := by
  have hB' := hB
  obtain ⟨⟨W8, L6, A5⟩, ⟨h0, h1, h2, h3, h6⟩, -⟩ := hB'
  unfold sX8_guess sX9_guess
  rw [e_isActor3 A5, e_isActor9 A5 h2, v_b, v_b]
  by_cases g : 0 ≤ x.toInt ∧ x.toInt < A
  · rw [if_pos g, vi_n n10, vi_n n10]
    obtain ⟨a, ha, rfl⟩ := n_ofN (N := A) g.1 g.2
    obtain ⟨kd, x, co, sh, gu, st, sg, hb', hv⟩ := hS.1 a ha
    rw [e_waits4 (show a < 5 by omega) hb'.2.2.2.2.2.1 hv.2.2.2.2.2.1.1, e_waits9 (show a < 5 by omega) hb'.2.2.2.2.2.1 hv.2.2.2.2.2.1.2, v_b, v_b]
    by_cases c : st = 0
    · rw [if_pos c, vi_n n10, vi_n n10]
      obtain ⟨z, z1, w, w1, k', k1, k2, k3, k4⟩ := q_put A5 hk h hS
      obtain ⟨z2, z3, w2, w3, e1, e2, e3, -⟩ := q_guessW ws pd hB (show a < 5 by omega) c hb' hv
      rw [z1, w1, v_b, v_b, z3, w3, v_b, v_b]
      exact ⟨_, rfl, _, rfl, e1, SR_off A5 ha e2 hS e3, k', k1, k2, k3, k4⟩
    · rw [if_neg c, vi_p nI_0, vi_p nI_0]
      exact ⟨_, rfl, _, rfl, rfl, hS, k, hk, rfl, rfl, h⟩
  · rw [if_neg g, vi_p nI_0, vi_p nI_0]
    exact ⟨_, rfl, _, rfl, rfl, hS, k, hk, rfl, rfl, h⟩
/-- what an actor acts for is another's -/
theorem SA_wish {a kd x co sh gu st x' : Nat} {sg : Nat → Nat} (ha : a < 5) (hx : x' < W) (hb' : SAb W L kd x co sh gu st sg) (hv : SAv r sc gn a kd x co sh gu st sg) : SA W L r (upd sc (a * 11 + 1) (nI x')) (upd gn a (nI x')) a ∧ offA a sc (upd sc (a * 11 + 1) (nI x')) gn (upd gn a (nI x')) := by
  obtain ⟨b1, b2, b3, b4, b5, b6, b7, b8⟩ := hb'
  obtain ⟨⟨a1, a2⟩, ⟨c1, c2⟩, ⟨d1, d2⟩, ⟨e1, e2⟩, ⟨f1, f2⟩, ⟨g1, g2⟩, hsg⟩ := hv
  refine ⟨⟨kd, x', co, sh, gu, st, sg, ⟨b1, hx, b3, b4, b5, b6, b7, b8⟩, ?_⟩, fun j hj => ?_, fun j hj => ?_⟩
  · refine ⟨⟨?_, a2⟩, ⟨?_, ?_⟩, ⟨?_, ?_⟩, ⟨?_, ?_⟩, ⟨?_, ?_⟩, ⟨?_, ?_⟩, fun k hk => ⟨?_, ?_⟩⟩ <;> simp (disch := omega) only [u_ne, u_eq] <;> first | assumption | exact (hsg k hk).1 | exact (hsg k hk).2
  · simp (disch := omega) only [u_ne]
  · simp (disch := omega) only [u_ne]
set_option maxHeartbeats 2000000 in
theorem q_change {k : Nat} (hB : RB W L A com len par lik fb hb pr r) (hk : k ≤ 8) (h : ShR W L A r rows past k) (hS : SR W L A r sc gn) (x y : Int32) : ∃ z, sX8_change 440 (nI A) sc rows (nI 8) (nI k) x y = some z ∧ ∃ w, sX9_change r gn past (nI k) x y = some w ∧ z.1 = w.1 ∧ SR W L A r z.2.1 w.2.1 ∧ ∃ k', k' ≤ 8 ∧ z.2.2.2 = nI k' ∧ w.2.2.2 = nI k' ∧ ShR W L A r z.2.2.1 w.2.2.1 k' := by
  have hB' := hB
  obtain ⟨⟨W8, L6, A5⟩, ⟨h0, h1, h2, h3, h6⟩, -⟩ := hB'
  unfold sX8_change sX9_change
  rw [e_isActor3 A5, e_isActor3 A5, e_isActor9 A5 h2, e_isActor9 A5 h2]
  simp only [v_b]
  by_cases g : 0 ≤ x.toInt ∧ x.toInt < A
  · rw [if_pos g, vi_n n10, vi_n n10]
    by_cases g2 : 0 ≤ y.toInt ∧ y.toInt < A
    · rw [if_pos g2, vi_n n10, vi_n n10]
      by_cases g3 : x = y
      · rw [vi_p g3, vi_p g3]
        exact ⟨_, rfl, _, rfl, rfl, hS, k, hk, rfl, rfl, h⟩
      · rw [vi_n g3, vi_n g3]
        obtain ⟨a, ha, rfl⟩ := n_ofN (N := A) g.1 g.2
        obtain ⟨b, hb, rfl⟩ := n_ofN (N := A) g2.1 g2.2
        rw [n_eq (by omega) (by omega)] at g3
        obtain ⟨kd, x, co, sh, gu, st, sg, hb', hv⟩ := hS.1 a ha
        obtain ⟨kd2, x2, co2, sh2, gu2, st2, sg2, hb2, hv2⟩ := hS.1 b hb
        rw [e_fresh4 (show a < 5 by omega) hb'.2.2.2.2.2.1 hb'.2.2.2.1 hv.2.2.2.1.1 hv.2.2.2.2.2.1.1, e_fresh9 (show a < 5 by omega) hb'.2.2.2.2.2.1 hb'.2.2.2.1 hv.2.2.2.1.2 hv.2.2.2.2.2.1.2, v_b, v_b]
        by_cases c : st = 0 ∧ sh = 0
        · rw [if_pos c, vi_n n10, vi_n n10, e_fresh4 (show b < 5 by omega) hb2.2.2.2.2.2.1 hb2.2.2.2.1 hv2.2.2.2.1.1 hv2.2.2.2.2.2.1.1, e_fresh9 (show b < 5 by omega) hb2.2.2.2.2.2.1 hb2.2.2.2.1 hv2.2.2.2.1.2 hv2.2.2.2.2.2.1.2, v_b, v_b]
          by_cases c2 : st2 = 0 ∧ sh2 = 0
          · rw [if_pos c2, vi_n n10, vi_n n10]
            obtain ⟨z, z1, w, w1, k', k1, k2, k3, k4⟩ := q_put A5 hk h hS
            obtain ⟨s1, s2⟩ := SA_wish (show a < 5 by omega) hb2.2.1 hb' hv
            have hS1 := SR_off A5 ha s2 hS s1
            obtain ⟨kd3, x3, co3, sh3, gu3, st3, sg3, hb3, hv3⟩ := hS1.1 b hb
            obtain ⟨t1, t2⟩ := SA_wish (show b < 5 by omega) hb'.2.1 hb3 hv3
            have hS2 := SR_off A5 hb t2 hS1 t1
            rw [z1, w1, v_b, v_b]
            simp (disch := omega) only [v_b, v_l, v_i, v_g1, v_g, v_z0, v_z1, v_zif, nI_add, n_mul, n_sub, n_cl, n_le, n_lt, n_eq, n_eq0, n_le0, n_lt0, n_eqm, n_meq0, n_lem, z_add, v_t, v_f, Nat.reduceMul, Nat.reduceAdd, Nat.zero_add, Nat.add_zero, Nat.sub_zero, if_pos, if_neg, e_cell, e_set, hv.2.1.1, hv.2.1.2, hv2.2.1.1, hv2.2.1.2, u_ne, u_eq]
            exact ⟨_, rfl, _, rfl, rfl, hS2, k', k1, k2, k3, k4⟩
          · rw [if_neg c2, vi_p nI_0, vi_p nI_0]
            exact ⟨_, rfl, _, rfl, rfl, hS, k, hk, rfl, rfl, h⟩
        · rw [if_neg c, vi_p nI_0, vi_p nI_0]
          exact ⟨_, rfl, _, rfl, rfl, hS, k, hk, rfl, rfl, h⟩
    · rw [if_neg g2, vi_p nI_0, vi_p nI_0]
      exact ⟨_, rfl, _, rfl, rfl, hS, k, hk, rfl, rfl, h⟩
  · rw [if_neg g, vi_p nI_0, vi_p nI_0]
    exact ⟨_, rfl, _, rfl, rfl, hS, k, hk, rfl, rfl, h⟩
theorem q_undo {k : Nat} (hA : A ≤ 5) (hk : k ≤ 8) (h : ShR W L A r rows past k) (hS : SR W L A r sc gn) : ∃ z, sX8_undo 440 sc rows (nI 8) (nI k) = some z ∧ ∃ w, sX9_undo gn past (nI k) = some w ∧ z.1 = w.1 ∧ SR W L A r z.2.1 w.2.1 ∧ ∃ k', k' ≤ 8 ∧ z.2.2 = nI k' ∧ w.2.2 = nI k' ∧ k' ≤ k := by
  unfold sX8_undo sX9_undo sX7_size
  by_cases q : k = 0
  · subst q
    rw [e_take0, v_b, vi_p nI_0, vi_p nI_0]
    exact ⟨_, rfl, _, rfl, rfl, hS, 0, by omega, rfl, rfl, by omega⟩
  · have e := e_take3 (rows := rows) (cells := sc) (M := 8) (k := k) (by omega) (by omega) (by omega)
    rw [show 8 * 55 = 440 from rfl] at e
    simp (disch := omega) only [v_b, v_l, v_i, v_g1, v_g, v_z0, v_z1, v_zif, nI_add, n_mul, n_sub, n_cl, n_le, n_lt, n_eq, n_eq0, n_le0, n_lt0, n_eqm, n_meq0, n_lem, z_add, v_t, v_f, Nat.reduceMul, Nat.reduceAdd, Nat.zero_add, Nat.add_zero, Nat.sub_zero, if_pos, if_neg, e, e_copies]
    exact ⟨_, rfl, _, rfl, rfl, ShR_take hA (by omega) h, k - 1, by omega, rfl, rfl, by omega⟩
/-! counts -/
theorem many_loop {A s : Nat} (hA : A ≤ 5) (hc : ∀ a, a < A → sc (a * 11 + 5) = gn (20 + a)) : ∀ (d f1 f2 a : Nat) (n : Int32), d = A - a → a ≤ A → d < f1 → d < f2 → ∃ z, LX8_howMany_5 (nI s) (nI A) sc f1 n (nI a) = some z ∧ LX9_throughOf_5 (nI s) (nI A) gn f2 n (nI a) = some z := by
  intro d
  induction d with
  | zero =>
    intro f1 f2 a n q1 q2 q3 q4
    obtain ⟨g1, rfl⟩ : ∃ f, f1 = f + 1 := ⟨f1 - 1, by omega⟩
    obtain ⟨g2, rfl⟩ : ∃ f, f2 = f + 1 := ⟨f2 - 1, by omega⟩
    rw [LX8_howMany_5, LX9_throughOf_5, sX0_actors, v_b, vi_p (show nI A ≤ nI a from by rw [n_le (by omega) (by omega)]; omega), vi_p (show nI A ≤ nI a from by rw [n_le (by omega) (by omega)]; omega)]
    exact ⟨_, rfl, rfl⟩
  | succ d ih =>
    intro f1 f2 a n q1 q2 q3 q4
    obtain ⟨g1, rfl⟩ : ∃ f, f1 = f + 1 := ⟨f1 - 1, by omega⟩
    obtain ⟨g2, rfl⟩ : ∃ f, f2 = f + 1 := ⟨f2 - 1, by omega⟩
    rw [LX8_howMany_5, LX9_throughOf_5, sX0_actors, v_b, vi_n (show ¬ nI A ≤ nI a from by rw [n_le (by omega) (by omega)]; omega), vi_n (show ¬ nI A ≤ nI a from by rw [n_le (by omega) (by omega)]; omega), e_cell (by omega), v_b, show nI 20 + nI a = nI (20 + a) from nI_add 20 a, v_g (by omega) (by omega), n_cl (by omega), hc a (by omega)]
    by_cases c : gn (20 + a) = nI s
    · rw [vi_p c, vi_p c]
      simp only [v_l, nI_add]
      exact ih g1 g2 (a + 1) _ (by omega) (by omega) (by omega) (by omega)
    · rw [vi_n c, vi_n c]
      simp only [v_l, nI_add]
      rw [show n + nI 0 = n from by rw [nI_0, Int32.add_zero]]
      exact ih g1 g2 (a + 1) _ (by omega) (by omega) (by omega) (by omega)
theorem q_many {A s : Nat} (hA : A ≤ 5) (hc : ∀ a, a < A → sc (a * 11 + 5) = gn (20 + a)) : ∃ z, sX8_howMany (nI A) sc (nI s) = some z ∧ sX9_throughOf gn (nI s) (nI A) = some z := by
  unfold sX8_howMany sX9_throughOf
  exact many_loop hA hc A vF vF 0 (nI 0) rfl (by omega) (by show A < 20000; omega) (by show A < 20000; omega)
theorem all_rest {A : Nat} (hz : ∀ a, A ≤ a → a < 5 → gn (10 + a) = nI 0) : ∀ (d f a : Nat) (n : Int32), d = 5 - a → a ≤ 5 → A ≤ a → d < f → LX9_shownInAll_4 gn f n (nI a) = some n := by
  intro d
  induction d with
  | zero =>
    intro f a n q1 q2 q3 q4
    obtain ⟨g, rfl⟩ : ∃ g, f = g + 1 := ⟨f - 1, by omega⟩
    rw [LX9_shownInAll_4, vi_p (show nI 5 ≤ nI a from by rw [n_le (by omega) (by omega)]; omega)]
  | succ d ih =>
    intro f a n q1 q2 q3 q4
    obtain ⟨g, rfl⟩ : ∃ g, f = g + 1 := ⟨f - 1, by omega⟩
    rw [LX9_shownInAll_4, vi_n (show ¬ nI 5 ≤ nI a from by rw [n_le (by omega) (by omega)]; omega), nI_add, v_g (by omega) (by omega), n_cl (by omega), hz a (by omega) (by omega), v_l, v_l, nI_add, show n + nI 0 = n from by rw [nI_0, Int32.add_zero]]
    exact ih g (a + 1) n (by omega) (by omega) (by omega) (by omega)
theorem all_loop {A : Nat} (hA : A ≤ 5) (hc : ∀ a, a < A → sc (a * 11 + 3) = gn (10 + a)) (hz : ∀ a, A ≤ a → a < 5 → gn (10 + a) = nI 0) : ∀ (d f1 f2 a : Nat) (n : Int32), d = A - a → a ≤ A → d < f1 → 5 - a < f2 → ∃ z, LX8_sumOf_5 (nI 3) (nI A) sc f1 n (nI a) = some z ∧ LX9_shownInAll_4 gn f2 n (nI a) = some z := by
  intro d
  induction d with
  | zero =>
    intro f1 f2 a n q1 q2 q3 q4
    obtain ⟨g1, rfl⟩ : ∃ f, f1 = f + 1 := ⟨f1 - 1, by omega⟩
    rw [LX8_sumOf_5, sX0_actors, v_b, vi_p (show nI A ≤ nI a from by rw [n_le (by omega) (by omega)]; omega), all_rest hz (5 - a) f2 a n rfl (by omega) (by omega) q4]
    exact ⟨_, rfl, rfl⟩
  | succ d ih =>
    intro f1 f2 a n q1 q2 q3 q4
    obtain ⟨g1, rfl⟩ : ∃ f, f1 = f + 1 := ⟨f1 - 1, by omega⟩
    obtain ⟨g2, rfl⟩ : ∃ f, f2 = f + 1 := ⟨f2 - 1, by omega⟩
    rw [LX8_sumOf_5, LX9_shownInAll_4, sX0_actors, v_b, vi_n (show ¬ nI A ≤ nI a from by rw [n_le (by omega) (by omega)]; omega), vi_n (show ¬ nI 5 ≤ nI a from by rw [n_le (by omega) (by omega)]; omega), e_cell (by omega), v_b, show nI 10 + nI a = nI (10 + a) from nI_add 10 a, v_g (by omega) (by omega), n_cl (by omega), hc a (by omega)]
    simp only [v_l, nI_add]
    exact ih g1 g2 (a + 1) _ (by omega) (by omega) (by omega) (by omega)
set_option maxHeartbeats 2000000 in
theorem q_count {n kp kk ks : Nat} (hB : RB W L A com len par lik fb hb pr r) (hS : SR W L A r sc gn) (x : Int32) : ∃ z, sX8_count (nI n) (nI W) (nI L) (nI A) pr sc (nI kp) (nI kk) (nI ks) x = some z ∧ sX9_count r gn (nI kp) (nI kk) (nI ks) (nI n) x = some z := by
  obtain ⟨⟨W8, L6, A5⟩, ⟨h0, h1, h2, h3, h6⟩, -⟩ := hB
  have c5 : ∀ a, a < A → sc (a * 11 + 5) = gn (20 + a) := fun a ha => by
    obtain ⟨kd, x, co, sh, gu, st, sg, -, hv⟩ := hS.1 a ha
    exact hv.2.2.2.2.2.1.1.trans hv.2.2.2.2.2.1.2.symm
  have c3 : ∀ a, a < A → sc (a * 11 + 3) = gn (10 + a) := fun a ha => by
    obtain ⟨kd, x, co, sh, gu, st, sg, -, hv⟩ := hS.1 a ha
    exact hv.2.2.2.1.1.trans hv.2.2.2.1.2.symm
  unfold sX8_count sX9_count sX0_words sX0_signs sX0_actors sX0_price sX9_signs sX6_size sX7_size sX8_sumOf sX9_shownInAll
  rw [n_cl (show 0 < 2147483648 by decide), n_cl (show 1 < 2147483648 by decide), n_cl (show 2 < 2147483648 by decide), n_cl (show 6 < 2147483648 by decide), h0, h1, h2, h6]
  obtain ⟨z5, e5, e5'⟩ := all_loop (sc := sc) (gn := gn) A5 c3 hS.2 A vF vF 0 (nI 0) rfl (by omega) (by show A < 20000; omega) (by decide)
  obtain ⟨m0, e0, e0'⟩ := q_many (s := 0) A5 c5
  obtain ⟨m1, e1, e1'⟩ := q_many (s := 1) A5 c5
  obtain ⟨m2, e2, e2'⟩ := q_many (s := 2) A5 c5
  obtain ⟨m3, e3, e3'⟩ := q_many (s := 3) A5 c5
  by_cases k0 : x = nI 0
  · rw [vi_p k0, vi_p k0]; exact ⟨_, rfl, rfl⟩
  rw [vi_n k0, vi_n k0]
  by_cases k1 : x = nI 1
  · rw [vi_p k1, vi_p k1]; exact ⟨_, rfl, rfl⟩
  rw [vi_n k1, vi_n k1]
  by_cases k2 : x = nI 2
  · rw [vi_p k2, vi_p k2]; exact ⟨_, rfl, rfl⟩
  rw [vi_n k2, vi_n k2]
  by_cases k3 : x = nI 3
  · rw [vi_p k3, vi_p k3]; exact ⟨_, rfl, rfl⟩
  rw [vi_n k3, vi_n k3]
  by_cases k4 : x = nI 4
  · rw [vi_p k4, vi_p k4, k4, n_sub (by omega), e0, e0']; exact ⟨_, rfl, rfl⟩
  rw [vi_n k4, vi_n k4]
  by_cases k5 : x = nI 5
  · rw [vi_p k5, vi_p k5, k5, n_sub (by omega), e1, e1']; exact ⟨_, rfl, rfl⟩
  rw [vi_n k5, vi_n k5]
  by_cases k6 : x = nI 6
  · rw [vi_p k6, vi_p k6, k6, n_sub (by omega), e2, e2']; exact ⟨_, rfl, rfl⟩
  rw [vi_n k6, vi_n k6]
  by_cases k7 : x = nI 7
  · rw [vi_p k7, vi_p k7, k7, n_sub (by omega), e3, e3']; exact ⟨_, rfl, rfl⟩
  rw [vi_n k7, vi_n k7]
  by_cases k8 : x = nI 8
  · rw [vi_p k8, vi_p k8, e5, e5']; exact ⟨_, rfl, rfl⟩
  rw [vi_n k8, vi_n k8]
  by_cases k9 : x = nI 9
  · rw [vi_p k9, vi_p k9]; exact ⟨_, rfl, rfl⟩
  rw [vi_n k9, vi_n k9]
  by_cases k10 : x = nI 10
  · rw [vi_p k10, vi_p k10]; exact ⟨_, rfl, rfl⟩
  rw [vi_n k10, vi_n k10]
  by_cases k11 : x = nI 11
  · rw [vi_p k11, vi_p k11]; exact ⟨_, rfl, rfl⟩
  rw [vi_n k11, vi_n k11]
  by_cases k12 : x = nI 12
  · rw [vi_p k12]; exact ⟨_, rfl, rfl⟩
  rw [vi_n k12]
  exact ⟨_, rfl, rfl⟩
end ACTING

/-! values: rows copied -/
theorem v_cp {β : Type} {a b k n0 n1 : Nat} {x : Option β} (h1 : a + k ≤ n0) (h2 : b + k ≤ n1) (ha : a + k < 2147483648) (hb : b + k < 2147483648) : vg (cpOk (nI a) (nI b) (nI k) n0 n1) x = x := by
  rw [show cpOk (nI a) (nI b) (nI k) n0 n1 = true from cpOk_mk (by rw [i_nI _ (by omega)]; omega) (by rw [i_nI _ (by omega)]; omega) (by rw [i_nI _ (by omega)]; omega) (by rw [i_nI _ (by omega), i_nI _ (by omega)]; omega) (by rw [i_nI _ (by omega), i_nI _ (by omega)]; omega)]
  rfl
theorem cpy_at {f g : Nat → Int32} (a b k i : Nat) : va_cpy f g a b k i = if b ≤ i ∧ i < b + k then f (a + (i - b)) else g i := rfl
theorem cpy_in {f g : Nat → Int32} {a b k i : Nat} (h : b ≤ i) (h2 : i < b + k) : va_cpy f g a b k i = f (a + (i - b)) := if_pos ⟨h, h2⟩
theorem cpy_out {f g : Nat → Int32} {a b k i : Nat} (h : i < b ∨ b + k ≤ i) : va_cpy f g a b k i = g i := if_neg (by omega)
theorem cpy_0 (f g : Nat → Int32) (a b : Nat) : va_cpy f g a b 0 = g := by
  funext i
  exact cpy_out (by omega)
theorem cpy_s (f g : Nat → Int32) (a b k : Nat) : upd (va_cpy f g a b k) (b + k) (f (a + k)) = va_cpy f g a b (k + 1) := by
  funext i
  by_cases h : i = b + k
  · rw [u_eq h, cpy_in (by omega) (by omega), h, show b + k - b = k by omega]
  · rw [u_ne h]
    by_cases q : b ≤ i ∧ i < b + k
    · rw [cpy_in q.1 q.2, cpy_in q.1 (by omega)]
    · rw [cpy_out (by omega), cpy_out (by omega)]
theorem copies_loop {f g : Nat → Int32} {n1 n3 a b k : Nat} (h1 : a + k ≤ n1) (h2 : b + k ≤ n3) (h3 : n1 < 2147483648) (h4 : n3 < 2147483648) : ∀ (d fuel i : Nat), d = k - i → i ≤ k → d < fuel → LX9_copies_3 (nI a) (nI b) (nI k) f n1 n3 fuel (nI i) (va_cpy f g a b i) = some (va_cpy f g a b k) := by
  intro d
  induction d with
  | zero =>
    intro fuel i q1 q2 q3
    obtain ⟨fu, rfl⟩ : ∃ f, fuel = f + 1 := ⟨fuel - 1, by omega⟩
    obtain rfl : i = k := by omega
    rw [LX9_copies_3, v_i, if_pos (show nI i ≤ nI i from by rw [n_le (by omega) (by omega)]; omega)]
  | succ d ih =>
    intro fuel i q1 q2 q3
    obtain ⟨fu, rfl⟩ : ∃ f, fuel = f + 1 := ⟨fuel - 1, by omega⟩
    rw [LX9_copies_3]
    simp (disch := omega) only [v_b, v_l, v_i, v_g1, v_g, v_z0, v_z1, v_zif, nI_add, n_mul, n_sub, n_cl, n_le, n_lt, n_eq, n_eq0, n_le0, n_lt0, n_eqm, n_meq0, n_lem, z_add, v_t, v_f, Nat.reduceMul, Nat.reduceAdd, if_pos, if_neg, cpy_s]
    exact ih fu (i + 1) (by omega) (by omega) (by omega)
theorem e_copies {f g : Nat → Int32} {n1 n3 a b k : Nat} (h1 : a + k ≤ n1) (h2 : b + k ≤ n3) (h3 : n1 < 2147483648) (h4 : n3 < 2147483648) (hk : k < 20000) : sX9_copies n1 n3 f g (nI a) (nI b) (nI k) = some (va_cpy f g a b k) := by
  unfold sX9_copies
  have e := copies_loop (f := f) (g := g) h1 h2 h3 h4 k vF 0 rfl (by omega) (by show k < 20000; omega)
  rw [cpy_0] at e
  exact e
theorem e_put {rows cells : Nat → Int32} {M k : Nat} (hM : M ≤ 8) (hk : k < M) : sX7_put (M * 55) rows (nI M) (nI k) cells = some (va_cpy cells rows 0 (k * 55) 55, nI (k + 1)) := by
  unfold sX7_put
  simp (disch := omega) only [v_b, v_l, v_i, v_g1, v_g, v_z0, v_z1, v_zif, nI_add, n_mul, n_sub, n_cl, n_le, n_lt, n_eq, n_eq0, n_le0, n_lt0, n_eqm, n_meq0, n_lem, z_add, v_t, v_f, Nat.reduceMul, Nat.reduceAdd, if_pos, if_neg, v_cp]
theorem e_putF {rows cells : Nat → Int32} {M : Nat} (hM : M ≤ 8) (h1 : 1 ≤ M) : sX7_put (M * 55) rows (nI M) (nI M) cells = some (va_cpy cells (va_cpy rows rows 55 0 ((M - 1) * 55)) 0 ((M - 1) * 55) 55, nI M) := by
  unfold sX7_put
  simp (disch := omega) only [v_b, v_l, v_i, v_g1, v_g, v_z0, v_z1, v_zif, nI_add, n_mul, n_sub, n_cl, n_le, n_lt, n_eq, n_eq0, n_le0, n_lt0, n_eqm, n_meq0, n_lem, z_add, v_t, v_f, Nat.reduceMul, Nat.reduceAdd, if_pos, if_neg, v_cp]
  rw [show M - 1 + 1 = M by omega]
theorem e_take3 {rows cells : Nat → Int32} {M k : Nat} (hM : M ≤ 8) (h1 : 1 ≤ k) (hk : k ≤ M) : sX7_takeInto (M * 55) rows (nI M) (nI k) cells = some (nI 1, nI (k - 1), va_cpy rows cells ((k - 1) * 55) 0 55) := by
  unfold sX7_takeInto
  simp (disch := omega) only [v_b, v_l, v_i, v_g1, v_g, v_z0, v_z1, v_zif, nI_add, n_mul, n_sub, n_cl, n_le, n_lt, n_eq, n_eq0, n_le0, n_lt0, n_eqm, n_meq0, n_lem, z_add, v_t, v_f, Nat.reduceMul, Nat.reduceAdd, if_pos, if_neg, v_cp]
theorem e_take0 {rows cells : Nat → Int32} {n M : Nat} : sX7_takeInto n rows (nI M) (nI 0) cells = some (nI 0, nI 0, cells) := by
  unfold sX7_takeInto
  simp (disch := omega) only [v_b, v_l, v_i, v_g1, v_g, v_z0, v_z1, v_zif, nI_add, n_mul, n_sub, n_cl, n_le, n_lt, n_eq, n_eq0, n_le0, n_lt0, n_eqm, n_meq0, n_lem, z_add, v_t, v_f, Nat.reduceMul, Nat.reduceAdd, if_pos, if_neg]
theorem rem_loop {now past0 : Nat → Int32} {k : Nat} (hk : k = 8) : ∀ (d fuel i : Nat), d = 350 - i → i ≤ 350 → d < fuel → LX9_remember_11 now (nI k) fuel (nI i) (va_cpy past0 past0 50 0 i) = some (va_cpy now (va_cpy past0 past0 50 0 350) 0 350 50, nI 8) := by
  subst hk
  intro d
  induction d with
  | zero =>
    intro fuel i q1 q2 q3
    obtain ⟨fu, rfl⟩ : ∃ f, fuel = f + 1 := ⟨fuel - 1, by omega⟩
    obtain rfl : i = 350 := by omega
    rw [LX9_remember_11, v_i, if_pos (show nI 350 ≤ nI 350 from by rw [n_le (by omega) (by omega)]; omega), v_l, n_sub (by omega), n_mul, e_copies (by omega) (by omega) (by omega) (by omega) (by omega), v_b, v_l, nI_add]
  | succ d ih =>
    intro fuel i q1 q2 q3
    obtain ⟨fu, rfl⟩ : ∃ f, fuel = f + 1 := ⟨fuel - 1, by omega⟩
    rw [LX9_remember_11]
    simp (disch := omega) only [v_b, v_l, v_i, v_g1, v_g, v_z0, v_z1, v_zif, nI_add, n_mul, n_sub, n_cl, n_le, n_lt, n_eq, n_eq0, n_le0, n_lt0, n_eqm, n_meq0, n_lem, z_add, v_t, v_f, Nat.reduceMul, Nat.reduceAdd, if_pos, if_neg]
    have e : va_cpy past0 past0 50 0 i (i + 50) = past0 (50 + i) := by rw [cpy_out (by omega), Nat.add_comm]
    have e2 := cpy_s past0 past0 50 0 i
    rw [Nat.zero_add] at e2
    rw [e, e2]
    exact ih fu (i + 1) (by omega) (by omega) (by omega)
theorem e_rem {now past : Nat → Int32} {k : Nat} (hk : k < 8) : sX9_remember now past (nI k) = some (va_cpy now past 0 (50 * k) 50, nI (k + 1)) := by
  unfold sX9_remember
  simp (disch := omega) only [v_b, v_l, v_i, v_g1, v_g, v_z0, v_z1, v_zif, nI_add, n_mul, n_sub, n_cl, n_le, n_lt, n_eq, n_eq0, n_le0, n_lt0, n_eqm, n_meq0, n_lem, z_add, v_t, v_f, Nat.reduceMul, Nat.reduceAdd, if_pos, if_neg, e_copies]
theorem e_remF {now past : Nat → Int32} : sX9_remember now past (nI 8) = some (va_cpy now (va_cpy past past 50 0 350) 0 350 50, nI 8) := by
  unfold sX9_remember
  rw [v_i, if_pos rfl]
  have e := rem_loop (now := now) (past0 := past) (k := 8) rfl 350 vF 0 rfl (by omega) (by decide)
  rw [cpy_0] at e
  exact e
/-! what is seen, what is kept -/
theorem q_see {sa sw gs r : Nat → Int32} {W A k : Nat} (hW : W ≤ 8) (hA : A ≤ 5) (h0 : r 0 = nI W) (h2 : r 2 = nI A) (hk : k ≤ 6) (x y : Int32) : ∃ z, sX8_see (nI W) (nI A) sa sw (nI k) x y = some z ∧ ∃ w, sX9_see r gs (nI k) x y = some w ∧ z.1 = w.1 ∧ ((z.2 = (sa, sw, nI k) ∧ w.2 = (gs, nI k)) ∨ (k < 6 ∧ (0 ≤ x.toInt ∧ x.toInt < A) ∧ (0 ≤ y.toInt ∧ y.toInt < W) ∧ z.2 = (upd sa k x, upd sw k y, nI (k + 1)) ∧ w.2 = (upd (upd gs (2 * k) x) (2 * k + 1) y, nI (k + 1)))) := by
  unfold sX8_see sX9_see sX6_add
  rw [e_isActor3 hA, e_isActor9 hA h2, e_isWord3 hW, e_isWord9 hW h0, v_b, v_b, v_b, v_b]
  by_cases h : 0 ≤ x.toInt ∧ x.toInt < A
  · simp (disch := omega) only [if_pos h, v_b, v_l, v_i, v_g1, v_g, v_z0, v_z1, v_zif, nI_add, n_mul, n_sub, n_cl, n_le, n_lt, n_eq, n_eq0, n_le0, n_lt0, n_eqm, n_meq0, n_lem, z_add, v_t, v_f, Nat.reduceMul, Nat.reduceAdd, if_pos, if_neg]
    by_cases g : 0 ≤ y.toInt ∧ y.toInt < W
    · simp (disch := omega) only [if_pos g, v_b, v_l, v_i, v_g1, v_g, v_z0, v_z1, v_zif, nI_add, n_mul, n_sub, n_cl, n_le, n_lt, n_eq, n_eq0, n_le0, n_lt0, n_eqm, n_meq0, n_lem, z_add, v_t, v_f, Nat.reduceMul, Nat.reduceAdd, if_pos, if_neg]
      by_cases q : k = 6
      · simp (disch := omega) only [if_pos q, v_b, v_l, v_i, v_g1, v_g, v_z0, v_z1, v_zif, nI_add, n_mul, n_sub, n_cl, n_le, n_lt, n_eq, n_eq0, n_le0, n_lt0, n_eqm, n_meq0, n_lem, z_add, v_t, v_f, Nat.reduceMul, Nat.reduceAdd, if_pos, if_neg]
        exact ⟨_, rfl, _, rfl, rfl, Or.inl ⟨rfl, rfl⟩⟩
      · simp (disch := omega) only [if_neg q, v_b, v_l, v_i, v_g1, v_g, v_z0, v_z1, v_zif, nI_add, n_mul, n_sub, n_cl, n_le, n_lt, n_eq, n_eq0, n_le0, n_lt0, n_eqm, n_meq0, n_lem, z_add, v_t, v_f, Nat.reduceMul, Nat.reduceAdd, if_pos, if_neg]
        exact ⟨_, rfl, _, rfl, rfl, Or.inr ⟨by omega, h, g, rfl, rfl⟩⟩
    · simp (disch := omega) only [if_neg g, v_b, v_l, v_i, v_g1, v_g, v_z0, v_z1, v_zif, nI_add, n_mul, n_sub, n_cl, n_le, n_lt, n_eq, n_eq0, n_le0, n_lt0, n_eqm, n_meq0, n_lem, z_add, v_t, v_f, Nat.reduceMul, Nat.reduceAdd, if_pos, if_neg]
      exact ⟨_, rfl, _, rfl, rfl, Or.inl ⟨rfl, rfl⟩⟩
  · simp (disch := omega) only [if_neg h, v_b, v_l, v_i, v_g1, v_g, v_z0, v_z1, v_zif, nI_add, n_mul, n_sub, n_cl, n_le, n_lt, n_eq, n_eq0, n_le0, n_lt0, n_eqm, n_meq0, n_lem, z_add, v_t, v_f, Nat.reduceMul, Nat.reduceAdd, if_pos, if_neg]
    exact ⟨_, rfl, _, rfl, rfl, Or.inl ⟨rfl, rfl⟩⟩
theorem q_keep {sc kr gn gk : Nat → Int32} {k : Nat} (hk : k ≤ 2) : ∃ z, sX8_keep 110 sc kr (nI 2) (nI k) = some z ∧ ∃ w, sX9_keep gn gk (nI k) = some w ∧ z.1 = w.1 ∧ ((k = 2 ∧ z.2 = (kr, nI k) ∧ w.2 = (gk, nI k)) ∨ (k < 2 ∧ z.2 = (va_cpy sc kr 0 (k * 55) 55, nI (k + 1)) ∧ w.2 = (va_cpy gn gk 0 (50 * k) 50, nI (k + 1)))) := by
  unfold sX8_keep sX9_keep sX7_size
  by_cases q : k = 2
  · subst q
    exact ⟨_, rfl, _, rfl, rfl, Or.inl ⟨rfl, rfl, rfl⟩⟩
  · have e := e_put (rows := kr) (cells := sc) (M := 2) (k := k) (by omega) (by omega)
    rw [show 2 * 55 = 110 from rfl] at e
    simp (disch := omega) only [v_b, v_l, v_i, v_g1, v_g, v_z0, v_z1, v_zif, nI_add, n_mul, n_sub, n_cl, n_le, n_lt, n_eq, n_eq0, n_le0, n_lt0, n_eqm, n_meq0, n_lem, z_add, v_t, v_f, Nat.reduceMul, Nat.reduceAdd, if_pos, if_neg, e, e_copies]
    exact ⟨_, rfl, _, rfl, rfl, Or.inr ⟨by omega, rfl, rfl⟩⟩
theorem q_back {sc kr gn gk : Nat → Int32} {k : Nat} (pu gu : Int32) (hk : k ≤ 2) : ∃ z, sX8_back 110 sc pu kr (nI 2) (nI k) = some z ∧ ∃ w, sX9_back gn gu gk (nI k) = some w ∧ z.1 = w.1 ∧ ((k = 0 ∧ z.2 = (sc, pu, nI k) ∧ w.2 = (gn, gu, nI k)) ∨ (1 ≤ k ∧ z.2 = (va_cpy kr sc ((k - 1) * 55) 0 55, nI 0, nI (k - 1)) ∧ w.2 = (va_cpy gk gn (50 * (k - 1)) 0 50, nI 0, nI (k - 1)))) := by
  unfold sX8_back sX9_back sX7_size sX7_clear
  by_cases q : k = 0
  · subst q
    rw [e_take0]
    exact ⟨_, rfl, _, rfl, rfl, Or.inl ⟨rfl, rfl, rfl⟩⟩
  · have e := e_take3 (rows := kr) (cells := sc) (M := 2) (k := k) (by omega) (by omega) (by omega)
    rw [show 2 * 55 = 110 from rfl] at e
    simp (disch := omega) only [v_b, v_l, v_i, v_g1, v_g, v_z0, v_z1, v_zif, nI_add, n_mul, n_sub, n_cl, n_le, n_lt, n_eq, n_eq0, n_le0, n_lt0, n_eqm, n_meq0, n_lem, z_add, v_t, v_f, Nat.reduceMul, Nat.reduceAdd, if_pos, if_neg, e, e_copies]
    exact ⟨_, rfl, _, rfl, rfl, Or.inr ⟨by omega, rfl, rfl⟩⟩

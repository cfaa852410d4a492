/-! values: the items of a text, on both sides -/
theorem numOK_N {c : Nat → Int32} {a lo hi : Nat} (hl : lo < 2147483648) (hh : hi < 2147483648) (h : numOK c a (nI lo) (nI hi)) : ∃ p : Nat, lo ≤ p ∧ p ≤ hi ∧ numV c a = nI p := by
  obtain ⟨_, h1, h2⟩ := h
  rw [i_nI _ hl] at h1
  rw [i_nI _ hh] at h2
  exact ⟨(numV c a).toInt.toNat, by omega, by omega, n_of (by omega)⟩
theorem numOK_W {c : Nat → Int32} {a W : Nat} (hW : W ≤ 8) (h : numOK c a (nI 0) (nI W - nI 1)) : ∃ p : Nat, p < W ∧ numV c a = nI p := by
  obtain ⟨_, h1, h2⟩ := h
  rw [i_nI _ (by decide)] at h1
  rw [i_sub, i_nI _ (by omega), i_nI _ (by decide)] at h2
  exact ⟨(numV c a).toInt.toNat, by omega, n_of (by omega)⟩
/-- an item taken on both sides, or on neither -/
def Out (c : Nat → Int32) (a : Nat) (zok zat wok wat : Int32) (good : Prop) : Prop :=
  (zok = nI 0 ∧ (wok = nI 0 ∨ wok = nI 1 ∧ ∃ b, b < 1000 ∧ wat = nI b ∧ ¬ c b = nI 59)) ∨ (zok = nI 1 ∧ wok = nI 1 ∧ ∃ b, a ≤ b ∧ wat = nI b ∧ c b = nI 59 ∧ zat = nI (b + 1) ∧ good)
theorem it_price {t u : Nat → Int32} {n a : Nat} (v : Int32) (r : Nat → Int32) (pr : Int32) (hn : n ≤ 200) (ha : a < 500) (hc : ch u n = ch t n) : ∃ z, sX3_readPrice 200 t (nI n) (nI a) pr = some z ∧ ∃ w, sX9_readsCost r u (nI n) (nI a) v = some w ∧ Out (ch t n) a z.1 z.2.1 w.1 w.2.2.1 ((∃ p : Nat, p ≤ 9 ∧ z.2.2 = nI p) ∧ w.2.1 = upd r 6 z.2.2) := by
  unfold sX3_readPrice sX9_readsCost
  have hA := numA_le (ch t n) a
  simp (disch := omega) only [v_b, v_l, v_i, v_g1, v_g, v_z0, v_z1, v_zif, nI_add, n_mul, n_sub, n_cl, n_le, n_lt, n_eq, n_eq0, n_le0, n_lt0, n_eqm, n_meq0, n_lem, z_add, v_t, v_f, Nat.reduceMul, Nat.reduceAdd, if_pos, if_neg, e_num3, e_num9, e_pass, sX0_setPrice, hc]
  by_cases h : numOK (ch t n) a (nI 0) (nI 9)
  · obtain ⟨p, hp, hp2, e⟩ := numOK_N (by decide) (by decide) h
    simp (disch := omega) only [if_pos h, if_pos h.1, e, v_b, v_l, v_i, v_g1, v_g, v_z0, v_z1, v_zif, nI_add, n_mul, n_sub, n_cl, n_le, n_lt, n_eq, n_eq0, n_le0, n_lt0, n_eqm, n_meq0, n_lem, z_add, v_t, v_f, Nat.reduceMul, Nat.reduceAdd, if_pos, if_neg]
    by_cases g : ch t n (numA (ch t n) a) = nI 59
    · simp (disch := omega) only [if_pos g, v_b, v_l, v_i, v_g1, v_g, v_z0, v_z1, v_zif, nI_add, n_mul, n_sub, n_cl, n_le, n_lt, n_eq, n_eq0, n_le0, n_lt0, n_eqm, n_meq0, n_lem, z_add, v_t, v_f, Nat.reduceMul, Nat.reduceAdd, if_pos, if_neg]
      exact ⟨_, rfl, _, rfl, Or.inr ⟨rfl, rfl, _, hA.1, rfl, g, rfl, ⟨p, hp2, rfl⟩, rfl⟩⟩
    · simp (disch := omega) only [if_neg g, v_b, v_l, v_i, v_g1, v_g, v_z0, v_z1, v_zif, nI_add, n_mul, n_sub, n_cl, n_le, n_lt, n_eq, n_eq0, n_le0, n_lt0, n_eqm, n_meq0, n_lem, z_add, v_t, v_f, Nat.reduceMul, Nat.reduceAdd, if_pos, if_neg]
      exact ⟨_, rfl, _, rfl, Or.inl ⟨rfl, Or.inr ⟨rfl, _, by omega, rfl, g⟩⟩⟩
  · simp (disch := omega) only [if_neg h, v_b, v_l, v_i, v_g1, v_g, v_z0, v_z1, v_zif, nI_add, n_mul, n_sub, n_cl, n_le, n_lt, n_eq, n_eq0, n_le0, n_lt0, n_eqm, n_meq0, n_lem, z_add, v_t, v_f, Nat.reduceMul, Nat.reduceAdd, if_pos, if_neg]
    exact ⟨_, rfl, _, rfl, Or.inl ⟨rfl, Or.inl rfl⟩⟩
theorem it_barred {t u : Nat → Int32} {n a : Nat} (v : Int32) (r : Nat → Int32) (fb : Int32) (hn : n ≤ 200) (ha : a < 500) (hc : ch u n = ch t n) : ∃ z, sX3_readForbidden 200 t (nI n) (nI a) fb = some z ∧ ∃ w, sX9_readsBarred r u (nI n) (nI a) v = some w ∧ Out (ch t n) a z.1 z.2.1 w.1 w.2.2.1 (∃ x, z.2.2 = fb ||| x ∧ w.2.1 = upd r 3 (r 3 ||| x)) := by
  unfold sX3_readForbidden sX9_readsBarred
  have hA := numA_le (ch t n) a
  simp (disch := omega) only [v_b, v_l, v_i, v_g1, v_g, v_z0, v_z1, v_zif, nI_add, n_mul, n_sub, n_cl, n_le, n_lt, n_eq, n_eq0, n_le0, n_lt0, n_eqm, n_meq0, n_lem, z_add, v_t, v_f, Nat.reduceMul, Nat.reduceAdd, if_pos, if_neg, e_num3, e_num9, e_pass, sX0_forbid, hc]
  by_cases h : numOK (ch t n) a (nI 0) (nI 14)
  · obtain ⟨p, hp, hp2, e⟩ := numOK_N (by decide) (by decide) h
    simp (disch := omega) only [if_pos h, if_pos h.1, e, v_b, v_l, v_i, v_g1, v_g, v_z0, v_z1, v_zif, nI_add, n_mul, n_sub, n_cl, n_le, n_lt, n_eq, n_eq0, n_le0, n_lt0, n_eqm, n_meq0, n_lem, z_add, v_t, v_f, Nat.reduceMul, Nat.reduceAdd, if_pos, if_neg]
    by_cases g : ch t n (numA (ch t n) a) = nI 59
    · simp (disch := omega) only [if_pos g, v_b, v_l, v_i, v_g1, v_g, v_z0, v_z1, v_zif, nI_add, n_mul, n_sub, n_cl, n_le, n_lt, n_eq, n_eq0, n_le0, n_lt0, n_eqm, n_meq0, n_lem, z_add, v_t, v_f, Nat.reduceMul, Nat.reduceAdd, if_pos, if_neg]
      exact ⟨_, rfl, _, rfl, Or.inr ⟨rfl, rfl, _, hA.1, rfl, g, rfl, _, rfl, rfl⟩⟩
    · simp (disch := omega) only [if_neg g, v_b, v_l, v_i, v_g1, v_g, v_z0, v_z1, v_zif, nI_add, n_mul, n_sub, n_cl, n_le, n_lt, n_eq, n_eq0, n_le0, n_lt0, n_eqm, n_meq0, n_lem, z_add, v_t, v_f, Nat.reduceMul, Nat.reduceAdd, if_pos, if_neg]
      exact ⟨_, rfl, _, rfl, Or.inl ⟨rfl, Or.inr ⟨rfl, _, by omega, rfl, g⟩⟩⟩
  · simp (disch := omega) only [if_neg h, v_b, v_l, v_i, v_g1, v_g, v_z0, v_z1, v_zif, nI_add, n_mul, n_sub, n_cl, n_le, n_lt, n_eq, n_eq0, n_le0, n_lt0, n_eqm, n_meq0, n_lem, z_add, v_t, v_f, Nat.reduceMul, Nat.reduceAdd, if_pos, if_neg]
    exact ⟨_, rfl, _, rfl, Or.inl ⟨rfl, Or.inl rfl⟩⟩
theorem it_habit {t u : Nat → Int32} {n a : Nat} (v : Int32) (r : Nat → Int32) (hb : Int32) (hn : n ≤ 200) (ha : a < 500) (hc : ch u n = ch t n) : ∃ z, sX3_readHabit 200 t (nI n) (nI a) hb = some z ∧ ∃ w, sX9_readsHabits r u (nI n) (nI a) v = some w ∧ Out (ch t n) a z.1 z.2.1 w.1 w.2.2.1 (∃ x y : Nat, 2 ≤ x ∧ x ≤ 5 ∧ 1 ≤ y ∧ y ≤ 4 ∧ z.2.2 = nI (10 * x + y) ∧ w.2.1 = upd (upd r 4 (nI x)) 5 (nI y)) := by
  unfold sX3_readHabit sX9_readsHabits
  have hA := numA_le (ch t n) a
  have h44 : 0 < (nI 44).toInt := by decide
  have hA2 := numA_le (ch t n) (numA (ch t n) a + 1)
  simp (disch := omega) only [v_b, v_l, v_i, v_g1, v_g, v_z0, v_z1, v_zif, nI_add, n_mul, n_sub, n_cl, n_le, n_lt, n_eq, n_eq0, n_le0, n_lt0, n_eqm, n_meq0, n_lem, z_add, v_t, v_f, Nat.reduceMul, Nat.reduceAdd, if_pos, if_neg, e_num3, e_num9, e_pass, e_take h44, sX0_setHabit, hc]
  by_cases h : numOK (ch t n) a (nI 2) (nI 5)
  · obtain ⟨x, hx, hx2, e⟩ := numOK_N (by decide) (by decide) h
    simp (disch := omega) only [if_pos h, if_pos h.1, e, v_b, v_l, v_i, v_g1, v_g, v_z0, v_z1, v_zif, nI_add, n_mul, n_sub, n_cl, n_le, n_lt, n_eq, n_eq0, n_le0, n_lt0, n_eqm, n_meq0, n_lem, z_add, v_t, v_f, Nat.reduceMul, Nat.reduceAdd, if_pos, if_neg]
    by_cases g : ch t n (numA (ch t n) a) = nI 44
    · simp (disch := omega) only [if_pos g, v_b, v_l, v_i, v_g1, v_g, v_z0, v_z1, v_zif, nI_add, n_mul, n_sub, n_cl, n_le, n_lt, n_eq, n_eq0, n_le0, n_lt0, n_eqm, n_meq0, n_lem, z_add, v_t, v_f, Nat.reduceMul, Nat.reduceAdd, if_pos, if_neg, e_num3, e_num9, e_pass, hc]
      by_cases h2 : numOK (ch t n) (numA (ch t n) a + 1) (nI 1) (nI 4)
      · obtain ⟨y, hy, hy2, e2⟩ := numOK_N (by decide) (by decide) h2
        simp (disch := omega) only [if_pos h2, if_pos h2.1, e2, v_b, v_l, v_i, v_g1, v_g, v_z0, v_z1, v_zif, nI_add, n_mul, n_sub, n_cl, n_le, n_lt, n_eq, n_eq0, n_le0, n_lt0, n_eqm, n_meq0, n_lem, z_add, v_t, v_f, Nat.reduceMul, Nat.reduceAdd, if_pos, if_neg]
        by_cases g2 : ch t n (numA (ch t n) (numA (ch t n) a + 1)) = nI 59
        · simp (disch := omega) only [if_pos g2, v_b, v_l, v_i, v_g1, v_g, v_z0, v_z1, v_zif, nI_add, n_mul, n_sub, n_cl, n_le, n_lt, n_eq, n_eq0, n_le0, n_lt0, n_eqm, n_meq0, n_lem, z_add, v_t, v_f, Nat.reduceMul, Nat.reduceAdd, if_pos, if_neg]
          exact ⟨_, rfl, _, rfl, Or.inr ⟨rfl, rfl, _, by omega, rfl, g2, rfl, x, y, hx, hx2, hy, hy2, rfl, rfl⟩⟩
        · simp (disch := omega) only [if_neg g2, v_b, v_l, v_i, v_g1, v_g, v_z0, v_z1, v_zif, nI_add, n_mul, n_sub, n_cl, n_le, n_lt, n_eq, n_eq0, n_le0, n_lt0, n_eqm, n_meq0, n_lem, z_add, v_t, v_f, Nat.reduceMul, Nat.reduceAdd, if_pos, if_neg]
          exact ⟨_, rfl, _, rfl, Or.inl ⟨rfl, Or.inr ⟨rfl, _, by omega, rfl, g2⟩⟩⟩
      · simp (disch := omega) only [if_neg h2, v_b, v_l, v_i, v_g1, v_g, v_z0, v_z1, v_zif, nI_add, n_mul, n_sub, n_cl, n_le, n_lt, n_eq, n_eq0, n_le0, n_lt0, n_eqm, n_meq0, n_lem, z_add, v_t, v_f, Nat.reduceMul, Nat.reduceAdd, if_pos, if_neg]
        exact ⟨_, rfl, _, rfl, Or.inl ⟨rfl, Or.inl rfl⟩⟩
    · simp (disch := omega) only [if_neg g, v_b, v_l, v_i, v_g1, v_g, v_z0, v_z1, v_zif, nI_add, n_mul, n_sub, n_cl, n_le, n_lt, n_eq, n_eq0, n_le0, n_lt0, n_eqm, n_meq0, n_lem, z_add, v_t, v_f, Nat.reduceMul, Nat.reduceAdd, if_pos, if_neg]
      exact ⟨_, rfl, _, rfl, Or.inl ⟨rfl, Or.inl rfl⟩⟩
  · simp (disch := omega) only [if_neg h, v_b, v_l, v_i, v_g1, v_g, v_z0, v_z1, v_zif, nI_add, n_mul, n_sub, n_cl, n_le, n_lt, n_eq, n_eq0, n_le0, n_lt0, n_eqm, n_meq0, n_lem, z_add, v_t, v_f, Nat.reduceMul, Nat.reduceAdd, if_pos, if_neg]
    exact ⟨_, rfl, _, rfl, Or.inl ⟨rfl, Or.inl rfl⟩⟩
/-- what a start leaves of the cells -/
def started (cells cells' : Nat → Int32) (a : Nat) (k u co : Int32) : Prop := cells' (a * 11) = k ∧ cells' (a * 11 + 1) = u ∧ cells' (a * 11 + 2) = co ∧ (∀ j, 3 ≤ j → j < 11 → cells' (a * 11 + j) = nI 0) ∧ (∀ j, j < a * 11 ∨ a * 11 + 11 ≤ j → cells' j = cells j)
theorem start_loop (a : Nat) (ha : a < 5) (k u co : Int32) : ∀ (d fuel i : Nat) (cells : Nat → Int32), d = 11 - i → i ≤ 11 → d < fuel → (∀ j, j < i → cells (a * 11 + j) = nI 0) → ∃ cells', LX4_start_3 (nI a) k u co fuel (nI i) cells = some cells' ∧ started cells cells' a k u co := by
  intro d
  induction d with
  | zero =>
    intro fuel i cells h1 h2 h3 h4
    obtain ⟨f, rfl⟩ : ∃ f, fuel = f + 1 := ⟨fuel - 1, by omega⟩
    have hi : i = 11 := by omega
    subst hi
    rw [LX4_start_3]
    simp (disch := omega) only [v_b, v_l, v_i, v_g1, v_g, v_z0, v_z1, v_zif, nI_add, n_mul, n_sub, n_cl, n_le, n_lt, n_eq, n_eq0, n_le0, n_lt0, n_eqm, n_meq0, n_lem, z_add, v_t, v_f, Nat.reduceMul, Nat.reduceAdd, if_pos, if_neg, e_set]
    refine ⟨_, rfl, ?_, ?_, ?_, ?_, ?_⟩
    · simp (disch := omega) only [u_eq, u_ne]
    · simp (disch := omega) only [u_eq, u_ne]
    · simp (disch := omega) only [u_eq, u_ne]
    · intro j g1 g2
      simp (disch := omega) only [u_eq, u_ne]
      exact h4 j g2
    · intro j g1
      simp (disch := omega) only [u_eq, u_ne]
  | succ d ih =>
    intro fuel i cells h1 h2 h3 h4
    obtain ⟨f, rfl⟩ : ∃ f, fuel = f + 1 := ⟨fuel - 1, by omega⟩
    rw [LX4_start_3]
    simp (disch := omega) only [v_b, v_l, v_i, v_g1, v_g, v_z0, v_z1, v_zif, nI_add, n_mul, n_sub, n_cl, n_le, n_lt, n_eq, n_eq0, n_le0, n_lt0, n_eqm, n_meq0, n_lem, z_add, v_t, v_f, Nat.reduceMul, Nat.reduceAdd, if_pos, if_neg, e_set]
    obtain ⟨c', e1, e2, e3, e4, e5, e6⟩ := ih f (i + 1) (upd cells (a * 11 + i) (nI 0)) (by omega) (by omega) (by omega) (fun j hj => by
      by_cases q : j = i
      · rw [u_eq (by omega)]
      · rw [u_ne (by omega)]; exact h4 j (by omega))
    refine ⟨c', e1, e2, e3, e4, e5, fun j hj => ?_⟩
    rw [e6 j hj, u_ne (by omega)]
theorem e_start {a : Nat} (ha : a < 5) (k u co : Int32) (cells : Nat → Int32) : ∃ cells', sX4_start cells (nI a) k u co = some cells' ∧ started cells cells' a k u co := by
  unfold sX4_start
  exact start_loop a ha k u co 11 vF 0 cells (by omega) (by omega) (by decide) (fun j hj => absurd hj (by omega))
theorem e_actor9 {r : Nat → Int32} {A : Nat} (hA : A < 5) (h2 : r 2 = nI A) (k u co : Int32) : sX9_actor r k u co = some (upd (upd (upd (upd r (37 + A) k) (42 + A) u) (47 + A) co) 2 (nI (A + 1))) := by
  unfold sX9_actor
  simp (disch := omega) only [v_b, v_l, v_i, v_g1, v_g, v_z0, v_z1, v_zif, nI_add, n_mul, n_sub, n_cl, n_le, n_lt, n_eq, n_eq0, n_le0, n_lt0, n_eqm, n_meq0, n_lem, z_add, v_t, v_f, Nat.reduceMul, Nat.reduceAdd, if_pos, if_neg, h2, u_ne, u_eq]
section STEPS
variable {t u : Nat → Int32} {n a : Nat} {lo hi v : Int32} {β : Type}
theorem st_num3 {f : Int32 × Int32 → Option β} (hn : n ≤ 200) (ha : a < 2147483000) (h : numOK (ch t n) a lo hi) : vb (sX3_number 200 t (nI n) (nI a) lo hi) f = f (numV (ch t n) a, nI (numA (ch t n) a)) := by
  rw [e_num3 lo hi hn (by decide) ha, v_b, if_pos h]
theorem st_num3n {f : Int32 × Int32 → Option β} (hn : n ≤ 200) (ha : a < 2147483000) (h : ¬ numOK (ch t n) a lo hi) : vb (sX3_number 200 t (nI n) (nI a) lo hi) f = f (-4, nI (numA (ch t n) a)) := by
  rw [e_num3 lo hi hn (by decide) ha, v_b, if_neg h]
theorem st_num9 {f : Int32 × Int32 × Int32 → Option β} (hn : n ≤ 200) (ha : a < 2147483000) (hc : ch u n = ch t n) (h : numOK (ch t n) a lo hi) : vb (sX9_number u (nI n) (nI a) v lo hi) f = f (nI 1, nI (numA (ch t n) a), numV (ch t n) a) := by
  rw [e_num9 v lo hi hn ha, v_b, hc, if_pos h, if_pos h.1]
theorem st_num9n {f : Int32 × Int32 × Int32 → Option β} (hn : n ≤ 200) (ha : a < 2147483000) (hc : ch u n = ch t n) (h : ¬ numOK (ch t n) a lo hi) : vb (sX9_number u (nI n) (nI a) v lo hi) f = f (nI 0, nI (numA (ch t n) a), if fig (ch t n a) then numV (ch t n) a else v) := by
  rw [e_num9 v lo hi hn ha, v_b, hc, if_neg h]
theorem st_pass {f : Int32 × Int32 → Option β} (hn : n ≤ 200) (ha : a < 2147483000) (h : ch t n a = lo) : vb (sX3_passes 200 t (nI n) (nI a) lo) f = f (nI 1, nI (a + 1)) := by
  rw [e_pass lo hn (by decide) ha, v_b, if_pos h, if_pos h]
theorem st_passn {f : Int32 × Int32 → Option β} (hn : n ≤ 200) (ha : a < 2147483000) (h : ¬ ch t n a = lo) : vb (sX3_passes 200 t (nI n) (nI a) lo) f = f (nI 0, nI a) := by
  rw [e_pass lo hn (by decide) ha, v_b, if_neg h, if_neg h]
theorem st_take {f : Int32 × Int32 → Option β} (hl : 0 < lo.toInt) (hn : n ≤ 200) (ha : a < 2147483000) (hc : ch u n = ch t n) (h : ch t n a = lo) : vb (sX9_takes u (nI n) (nI a) lo) f = f (nI 1, nI (a + 1)) := by
  rw [e_take hl hn ha, v_b, hc, if_pos h, if_pos h]
theorem st_taken {f : Int32 × Int32 → Option β} (hl : 0 < lo.toInt) (hn : n ≤ 200) (ha : a < 2147483000) (hc : ch u n = ch t n) (h : ¬ ch t n a = lo) : vb (sX9_takes u (nI n) (nI a) lo) f = f (nI 0, nI a) := by
  rw [e_take hl hn ha, v_b, hc, if_neg h, if_neg h]
end STEPS
theorem n10 : ¬ nI 1 = 0 := by decide
theorem m4 {k : Nat} (h : k < 2147483648) : ¬ nI k = -4 := by rw [n_eqm h]; exact id
theorem act_full {t : Nat → Int32} {n a W : Nat} (cells : Nat → Int32) (hW : W ≤ 8) (hn : n ≤ 200) (ha : a < 500) : ∃ z, sX3_readActor 200 t (nI n) (nI a) (nI W) (nI 5) cells = some z ∧ z.1 = nI 0 := by
  have hA := numA_le (ch t n) a
  have hA2 := numA_le (ch t n) (numA (ch t n) a + 1)
  have hA3 := numA_le (ch t n) (numA (ch t n) (numA (ch t n) a + 1) + 1)
  unfold sX3_readActor
  by_cases h : numOK (ch t n) a (nI 0) (nI 3)
  · obtain ⟨k, _, hk, e⟩ := numOK_N (by decide) (by decide) h
    rw [st_num3 hn (by omega) h]; dsimp only; rw [e, v_i, if_neg (m4 (by omega))]
    by_cases g : ch t n (numA (ch t n) a) = nI 44
    · rw [st_pass hn (by omega) g]; dsimp only; rw [v_i, if_neg n10, sX0_words, v_b]
      by_cases h2 : numOK (ch t n) (numA (ch t n) a + 1) (nI 0) (nI W - nI 1)
      · obtain ⟨x, hx, e2⟩ := numOK_W hW h2
        rw [st_num3 hn (by omega) h2]; dsimp only; rw [e2, v_i, if_neg (m4 (by omega))]
        by_cases g2 : ch t n (numA (ch t n) (numA (ch t n) a + 1)) = nI 44
        · rw [st_pass hn (by omega) g2]; dsimp only; rw [v_i, if_neg n10]
          by_cases h3 : numOK (ch t n) (numA (ch t n) (numA (ch t n) a + 1) + 1) (nI 0) (nI 99)
          · obtain ⟨co, _, hco, e3⟩ := numOK_N (by decide) (by decide) h3
            rw [st_num3 hn (by omega) h3]; dsimp only; rw [e3, v_i, if_neg (m4 (by omega))]
            by_cases g3 : ch t n (numA (ch t n) (numA (ch t n) (numA (ch t n) a + 1) + 1)) = nI 59
            · rw [st_pass hn (by omega) g3]; dsimp only; rw [v_i, if_neg n10]
              exact ⟨_, rfl, rfl⟩
            · rw [st_passn hn (by omega) g3]; dsimp only; rw [v_i, if_pos nI_0]; exact ⟨_, rfl, rfl⟩
          · rw [st_num3n hn (by omega) h3]; dsimp only; rw [v_i, if_pos rfl]; exact ⟨_, rfl, rfl⟩
        · rw [st_passn hn (by omega) g2]; dsimp only; rw [v_i, if_pos nI_0]; exact ⟨_, rfl, rfl⟩
      · rw [st_num3n hn (by omega) h2]; dsimp only; rw [v_i, if_pos rfl]; exact ⟨_, rfl, rfl⟩
    · rw [st_passn hn (by omega) g]; dsimp only; rw [v_i, if_pos nI_0]; exact ⟨_, rfl, rfl⟩
  · rw [st_num3n hn (by omega) h]; dsimp only; rw [v_i, if_pos rfl]; exact ⟨_, rfl, rfl⟩
set_option maxHeartbeats 2000000 in
theorem it_actor {t u : Nat → Int32} {n a W A : Nat} (v : Int32) (r cells : Nat → Int32) (hW : W ≤ 8) (hA5 : A ≤ 5) (h0 : r 0 = nI W) (hr2 : r 2 = nI A) (hn : n ≤ 200) (ha : a < 500) (hc : ch u n = ch t n) : ∃ z, sX3_readActor 200 t (nI n) (nI a) (nI W) (nI A) cells = some z ∧ ∃ w, sX9_readsActor r u (nI n) (nI a) v = some w ∧ Out (ch t n) a z.1 z.2.1 w.1 w.2.2.1 (A < 5 ∧ ∃ k x co : Nat, k ≤ 3 ∧ x < W ∧ co ≤ 99 ∧ z.2.2.1 = nI (A + 1) ∧ started cells z.2.2.2 A (nI k) (nI x) (nI co) ∧ w.2.1 = upd (upd (upd (upd r (37 + A) (nI k)) (42 + A) (nI x)) (47 + A) (nI co)) 2 (nI (A + 1))) := by
  by_cases q : A = 5
  · subst q
    obtain ⟨z, z1, z2⟩ := act_full (t := t) (n := n) (a := a) cells hW hn ha
    unfold sX9_readsActor
    rw [n_cl (by decide), hr2, v_i, if_pos rfl]
    exact ⟨z, z1, _, rfl, Or.inl ⟨z2, Or.inl rfl⟩⟩
  have hA := numA_le (ch t n) a
  have h44 : 0 < (nI 44).toInt := by decide
  have hA2 := numA_le (ch t n) (numA (ch t n) a + 1)
  have hA3 := numA_le (ch t n) (numA (ch t n) (numA (ch t n) a + 1) + 1)
  unfold sX3_readActor sX9_readsActor
  rw [n_cl (show 2 < 2147483648 by decide), n_cl (show 0 < 2147483648 by decide), hr2, h0, v_i, if_neg (show ¬ nI A = nI 5 from by rw [n_eq (by omega) (by omega)]; exact q)]
  by_cases h : numOK (ch t n) a (nI 0) (nI 3)
  · obtain ⟨k, _, hk, e⟩ := numOK_N (by decide) (by decide) h
    rw [st_num3 hn (by omega) h, st_num9 hn (by omega) hc h]; dsimp only; rw [e, v_i, v_i, if_neg (m4 (by omega)), if_neg n10]
    by_cases g : ch t n (numA (ch t n) a) = nI 44
    · rw [st_pass hn (by omega) g, st_take h44 hn (by omega) hc g]; dsimp only; rw [v_i, v_i, if_neg n10, if_neg n10, sX0_words, v_b]
      by_cases h2 : numOK (ch t n) (numA (ch t n) a + 1) (nI 0) (nI W - nI 1)
      · obtain ⟨x, hx, e2⟩ := numOK_W hW h2
        rw [st_num3 hn (by omega) h2, st_num9 hn (by omega) hc h2]; dsimp only; rw [e2, v_i, v_i, if_neg (m4 (by omega)), if_neg n10]
        by_cases g2 : ch t n (numA (ch t n) (numA (ch t n) a + 1)) = nI 44
        · rw [st_pass hn (by omega) g2, st_take h44 hn (by omega) hc g2]; dsimp only; rw [v_i, v_i, if_neg n10, if_neg n10]
          by_cases h3 : numOK (ch t n) (numA (ch t n) (numA (ch t n) a + 1) + 1) (nI 0) (nI 99)
          · obtain ⟨co, _, hco, e3⟩ := numOK_N (by decide) (by decide) h3
            rw [st_num3 hn (by omega) h3, st_num9 hn (by omega) hc h3]; dsimp only; rw [e3, v_i, v_i, if_neg (m4 (by omega)), if_neg n10, e_actor9 (show A < 5 by omega) hr2, v_b]
            by_cases g3 : ch t n (numA (ch t n) (numA (ch t n) (numA (ch t n) a + 1) + 1)) = nI 59
            · rw [st_pass hn (by omega) g3]; dsimp only; rw [v_i, if_neg n10, sX0_addActor, v_i, if_pos (show nI A < nI 5 from by rw [n_lt (by omega) (by omega)]; omega), v_l, v_b]; dsimp only; rw [v_i, if_neg n10, sX0_actors, v_b, nI_add, n_sub (by omega), Nat.add_sub_cancel]
              obtain ⟨cells', s1, s2⟩ := e_start (a := A) (by omega) (nI k) (nI x) (nI co) cells
              rw [s1, v_b]
              exact ⟨_, rfl, _, rfl, Or.inr ⟨rfl, rfl, _, by omega, rfl, g3, rfl, by omega, k, x, co, hk, hx, hco, rfl, s2, rfl⟩⟩
            · rw [st_passn hn (by omega) g3]; dsimp only; rw [v_i, if_pos nI_0]
              exact ⟨_, rfl, _, rfl, Or.inl ⟨rfl, Or.inr ⟨rfl, _, by omega, rfl, g3⟩⟩⟩
          · rw [st_num3n hn (by omega) h3, st_num9n hn (by omega) hc h3]; dsimp only; rw [v_i, v_i, if_pos rfl, if_pos nI_0]
            exact ⟨_, rfl, _, rfl, Or.inl ⟨rfl, Or.inl rfl⟩⟩
        · rw [st_passn hn (by omega) g2, st_taken h44 hn (by omega) hc g2]; dsimp only; rw [v_i, v_i, if_pos nI_0, if_pos nI_0]
          exact ⟨_, rfl, _, rfl, Or.inl ⟨rfl, Or.inl rfl⟩⟩
      · rw [st_num3n hn (by omega) h2, st_num9n hn (by omega) hc h2]; dsimp only; rw [v_i, v_i, if_pos rfl, if_pos nI_0]
        exact ⟨_, rfl, _, rfl, Or.inl ⟨rfl, Or.inl rfl⟩⟩
    · rw [st_passn hn (by omega) g, st_taken h44 hn (by omega) hc g]; dsimp only; rw [v_i, v_i, if_pos nI_0, if_pos nI_0]
      exact ⟨_, rfl, _, rfl, Or.inl ⟨rfl, Or.inl rfl⟩⟩
  · rw [st_num3n hn (by omega) h, st_num9n hn (by omega) hc h]; dsimp only; rw [v_i, v_i, if_pos rfl, if_pos nI_0]
    exact ⟨_, rfl, _, rfl, Or.inl ⟨rfl, Or.inl rfl⟩⟩

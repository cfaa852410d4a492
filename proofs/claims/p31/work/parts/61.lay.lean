/-! values: a text laid -/
theorem beg2 {p : Nat → Int32} {A : Nat} (hA : A ≤ 5) (h2 : p 2 = nI A) : ∀ (d fuel a : Nat) (now : Nat → Int32), d = A - a → a ≤ A → d < fuel → (∀ b, b < a → now b = p (42 + b) ∧ now (5 + b) = p (47 + b)) → (∀ i, 10 ≤ i → i < 50 → now i = nI 0) → ∃ now', LX9_begins_23 p fuel (nI a) now = some (now', nI 0, nI 0, nI 0) ∧ (∀ b, b < A → now' b = p (42 + b) ∧ now' (5 + b) = p (47 + b)) ∧ (∀ i, 10 ≤ i → i < 50 → now' i = nI 0) := by
  intro d
  induction d with
  | zero =>
    intro fuel a now q1 q2 q3 q4 q5
    obtain ⟨f, rfl⟩ : ∃ f, fuel = f + 1 := ⟨fuel - 1, by omega⟩
    obtain rfl : a = A := by omega
    rw [LX9_begins_23]
    simp (disch := omega) only [v_b, v_l, v_i, v_g1, v_g, v_z0, v_z1, v_zif, nI_add, n_mul, n_sub, n_cl, n_le, n_lt, n_eq, n_eq0, n_le0, n_lt0, n_eqm, n_meq0, n_lem, z_add, v_t, v_f, Nat.reduceMul, Nat.reduceAdd, if_pos, if_neg, h2]
    exact ⟨now, rfl, q4, q5⟩
  | succ d ih =>
    intro fuel a now q1 q2 q3 q4 q5
    obtain ⟨f, rfl⟩ : ∃ f, fuel = f + 1 := ⟨fuel - 1, by omega⟩
    rw [LX9_begins_23]
    simp (disch := omega) only [v_b, v_l, v_i, v_g1, v_g, v_z0, v_z1, v_zif, nI_add, n_mul, n_sub, n_cl, n_le, n_lt, n_eq, n_eq0, n_le0, n_lt0, n_eqm, n_meq0, n_lem, z_add, v_t, v_f, Nat.reduceMul, Nat.reduceAdd, if_pos, if_neg, h2]
    rw [Nat.zero_add]
    refine ih f (a + 1) _ (by omega) (by omega) (by omega) (fun b hb => ?_) (fun i i1 i2 => ?_)
    · by_cases e : b = a
      · subst e
        simp (disch := omega) only [u_ne, u_eq]
        exact ⟨trivial, trivial⟩
      · simp (disch := omega) only [u_ne, u_eq]
        exact q4 b (by omega)
    · simp (disch := omega) only [u_ne]
      exact q5 i i1 i2
theorem beg1 {p : Nat → Int32} {A : Nat} (hA : A ≤ 5) (h2 : p 2 = nI A) : ∀ (d fuel i : Nat) (now : Nat → Int32), d = 50 - i → i ≤ 50 → d < fuel → (∀ j, j < i → now j = nI 0) → ∃ now', LX9_begins_2 p fuel (nI i) now = some (now', nI 0, nI 0, nI 0) ∧ (∀ b, b < A → now' b = p (42 + b) ∧ now' (5 + b) = p (47 + b)) ∧ (∀ i, 10 ≤ i → i < 50 → now' i = nI 0) := by
  intro d
  induction d with
  | zero =>
    intro fuel i now q1 q2 q3 q4
    obtain ⟨f, rfl⟩ : ∃ f, fuel = f + 1 := ⟨fuel - 1, by omega⟩
    rw [LX9_begins_2, v_i, if_pos (show nI 50 ≤ nI i from by rw [n_le (by decide) (by omega)]; omega)]
    exact beg2 hA h2 A vF 0 now rfl (by omega) (by show A < 20000; omega) (fun b hb => absurd hb (by omega)) (fun j _ j2 => q4 j (by omega))
  | succ d ih =>
    intro fuel i now q1 q2 q3 q4
    obtain ⟨f, rfl⟩ : ∃ f, fuel = f + 1 := ⟨fuel - 1, by omega⟩
    rw [LX9_begins_2]
    simp (disch := omega) only [v_b, v_l, v_i, v_g1, v_g, v_z0, v_z1, v_zif, nI_add, n_mul, n_sub, n_cl, n_le, n_lt, n_eq, n_eq0, n_le0, n_lt0, n_eqm, n_meq0, n_lem, z_add, v_t, v_f, Nat.reduceMul, Nat.reduceAdd, if_pos, if_neg]
    refine ih f (i + 1) _ (by omega) (by omega) (by omega) (fun j hj => ?_)
    by_cases e : j = i
    · rw [u_eq e]
    · rw [u_ne e]; exact q4 j (by omega)
theorem e_begins {p now : Nat → Int32} {A : Nat} (u k s : Int32) (hA : A ≤ 5) (h2 : p 2 = nI A) : ∃ now', sX9_begins p now u k s = some (now', nI 0, nI 0, nI 0) ∧ (∀ b, b < A → now' b = p (42 + b) ∧ now' (5 + b) = p (47 + b)) ∧ (∀ i, 10 ≤ i → i < 50 → now' i = nI 0) := by
  unfold sX9_begins
  exact beg1 hA h2 50 vF 0 now rfl (by omega) (by decide) (fun j hj => absurd hj (by omega))
/-- a scene as it starts, on both sides -/
def RStart (W A : Nat) (cells post now : Nat → Int32) : Prop := (∀ a, a < A → (∃ k x co : Nat, k ≤ 3 ∧ x < W ∧ co ≤ 99 ∧ cells (a * 11) = nI k ∧ post (37 + a) = nI k ∧ cells (a * 11 + 1) = nI x ∧ now a = nI x ∧ cells (a * 11 + 2) = nI co ∧ now (5 + a) = nI co) ∧ ∀ j, 3 ≤ j → j < 11 → cells (a * 11 + j) = nI 0) ∧ ∀ i, 10 ≤ i → i < 50 → now i = nI 0
def layN (uu : (Nat → Int32) × (Nat → Int32) × (Nat → Int32) × (Nat → Int32) × Int32 × Int32 × Int32 × Int32 × Int32 × Int32 × (Nat → Int32) × (Nat → Int32) × Int32 × Int32 × Int32 × Int32 × Int32) (ww : Int32 × (Nat → Int32) × (Nat → Int32) × (Nat → Int32) × Int32 × Int32 × Int32 × Int32 × Int32) (sc post now : Nat → Int32) (pu ku su un km sm : Int32) : Prop :=
  uu.2.2.2.2.2.2.2.2.2.2.1 = sc ∧ uu.2.2.2.2.2.2.2.2.2.2.2.2.1 = pu ∧ uu.2.2.2.2.2.2.2.2.2.2.2.2.2.1 = ku ∧ uu.2.2.2.2.2.2.2.2.2.2.2.2.2.2.1 = su ∧ ww.1 = -2 ∧ ww.2.1 = post ∧ ww.2.2.2.1 = now ∧ ww.2.2.2.2.1 = un ∧ ww.2.2.2.2.2.1 = km ∧ ww.2.2.2.2.2.2.1 = sm
def layY (uu : (Nat → Int32) × (Nat → Int32) × (Nat → Int32) × (Nat → Int32) × Int32 × Int32 × Int32 × Int32 × Int32 × Int32 × (Nat → Int32) × (Nat → Int32) × Int32 × Int32 × Int32 × Int32 × Int32) (ww : Int32 × (Nat → Int32) × (Nat → Int32) × (Nat → Int32) × Int32 × Int32 × Int32 × Int32 × Int32) (W L A : Nat) : Prop :=
  ww.1 = nI A ∧ 1 ≤ W ∧ 1 ≤ A ∧ uu.2.2.2.2.1 = nI W ∧ uu.2.2.2.2.2.1 = nI L ∧ uu.2.2.2.2.2.2.1 = nI A ∧ RB W L A uu.1 uu.2.1 uu.2.2.1 uu.2.2.2.1 uu.2.2.2.2.2.2.2.1 uu.2.2.2.2.2.2.2.2.1 uu.2.2.2.2.2.2.2.2.2.1 ww.2.1 ∧ RStart W A uu.2.2.2.2.2.2.2.2.2.2.1 ww.2.1 ww.2.2.2.1 ∧ uu.2.2.2.2.2.2.2.2.2.2.2.2.1 = nI 0 ∧ uu.2.2.2.2.2.2.2.2.2.2.2.2.2.1 = nI 0 ∧ uu.2.2.2.2.2.2.2.2.2.2.2.2.2.2.1 = nI 0 ∧ ww.2.2.2.2.1 = nI 0 ∧ ww.2.2.2.2.2.1 = nI 0 ∧ ww.2.2.2.2.2.2.1 = nI 0
set_option maxHeartbeats 2000000 in
theorem q_lay {t u : Nat → Int32} {n : Nat} (hn : n ≤ 200) (hc : ch u n = ch t n) (com len par lik : Nat → Int32) (wc lc ac fb hb pr : Int32) (sc tr : Nat → Int32) (pu ku su fe fa : Int32) (post read now : Nat → Int32) (un km sm a v : Int32) :
  (∃ uu ww, (∀ ab ad : Nat, sX8_lay ab ad t (nI n) com len par lik wc lc ac fb hb pr sc tr pu ku su fe fa = some (-2, ab, ad, uu)) ∧ sX9_lay post read now un km sm u (nI n) a v = some ww ∧ layN uu ww sc post now pu ku su un km sm) ∨
  (∃ uu ww W L A, (∀ ab ad : Nat, sX8_lay ab ad t (nI n) com len par lik wc lc ac fb hb pr sc tr pu ku su fe fa = some (nI A, ad, ab, uu)) ∧ sX9_lay post read now un km sm u (nI n) a v = some ww ∧ layY uu ww W L A) := by
  obtain ⟨z, z1, w, w1, e, hz⟩ := rd_eq hn hc fe fa com len par lik wc lc ac fb hb pr tr read a v
  unfold sX8_lay sX9_lay sX0_words sX0_actors
  simp only [z1, w1, v_b, v_i, ← e]
  by_cases h : z.1 = -4
  · obtain ⟨W, L, A, e1, e2, e3, hB, hR⟩ := hz h
    have hB' := hB
    obtain ⟨⟨b1, b2, b3⟩, ⟨h0, h1, h2, h3, h6⟩, -⟩ := hB'
    simp only [if_pos h, e1, e3]
    simp (disch := omega) only [n_cl, h0, h2, n_eq0, n_lt, n_le]
    by_cases k1 : W = 0
    · simp only [if_pos k1, if_pos (show W < 1 by omega)]
      exact Or.inl ⟨_, _, fun _ _ => rfl, rfl, rfl, rfl, rfl, rfl, rfl, rfl, rfl, rfl, rfl, rfl⟩
    · simp only [if_neg k1, if_neg (show ¬ W < 1 by omega)]
      by_cases k2 : A = 0
      · simp only [if_pos k2, if_neg (show ¬ 1 ≤ A by omega)]
        exact Or.inl ⟨_, _, fun _ _ => rfl, rfl, rfl, rfl, rfl, rfl, rfl, rfl, rfl, rfl, rfl, rfl⟩
      · simp only [if_neg k2, if_pos (show 1 ≤ A by omega)]
        have ep : ∀ i, i < 52 → va_cpy w.2.1 post 0 0 52 i = w.2.1 i := fun i hi => by rw [cpy_in (by omega) (by omega), show 0 + (i - 0) = i by omega]
        obtain ⟨now', n1, n2, n3⟩ := e_begins (p := va_cpy w.2.1 post 0 0 52) (now := now) un km sm b3 ((ep 2 (by omega)).trans h2)
        rw [e_copies (by omega) (by omega) (by omega) (by omega) (by omega), v_b, n1, v_b, ep 2 (by omega), h2]
        unfold sX4_copyFrom sX7_clear sX6_clear
        simp (disch := omega) only [v_b, v_l, n_cl]
        refine Or.inr ⟨_, _, W, L, A, fun _ _ => rfl, rfl, rfl, by omega, by omega, rfl, e2, rfl, RB_congr hB ep, ⟨fun b hb => ?_, n3⟩, rfl, rfl, rfl, rfl, rfl, rfl⟩
        obtain ⟨⟨k, x, co, r1, r2, r3, r4, r5, r6, r7, r8, r9⟩, r10⟩ := hR b hb
        obtain ⟨m1, m2⟩ := n2 b hb
        have ec : ∀ i, i < 55 → va_cpy z.2.2.2.2.2.2.2.2.2.2.2.2.2 sc 0 0 55 i = z.2.2.2.2.2.2.2.2.2.2.2.2.2 i := fun i hi => by rw [cpy_in (by omega) (by omega), show 0 + (i - 0) = i by omega]
        refine ⟨⟨k, x, co, r1, r2, r3, (ec _ (by omega)).trans r4, (ep _ (by omega)).trans r5, (ec _ (by omega)).trans r6, m1.trans ((ep _ (by omega)).trans r7), (ec _ (by omega)).trans r8, m2.trans ((ep _ (by omega)).trans r9)⟩, fun j j1 j2 => (ec _ (by omega)).trans (r10 j j1 j2)⟩
  · simp only [if_neg h]
    exact Or.inl ⟨_, _, fun _ _ => rfl, rfl, rfl, rfl, rfl, rfl, rfl, rfl, rfl, rfl, rfl, rfl⟩
theorem q_fault {t u : Nat → Int32} {n : Nat} (hn : n ≤ 200) (hc : ch u n = ch t n) (com len par lik : Nat → Int32) (wc lc ac fb hb pr : Int32) (tr : Nat → Int32) (fe fa : Int32) (read : Nat → Int32) (a v : Int32) : ∃ z, sX8_fault t (nI n) com len par lik wc lc ac fb hb pr tr fe fa = some z ∧ ∃ w, sX9_fault read u (nI n) a v = some w ∧ z.1 = w.1 := by
  obtain ⟨z, z1, w, w1, e, hz⟩ := rd_eq hn hc fe fa com len par lik wc lc ac fb hb pr tr read a v
  unfold sX8_fault sX9_fault
  rw [z1, w1, v_b, v_b]
  exact ⟨_, rfl, _, rfl, e⟩
theorem q_write {t u : Nat → Int32} {n : Nat} (hn : n ≤ 200) (he : ∀ i, i < n → u i = t i) (x : Int32) : ∃ z, sX8_write t (nI n) x = some z ∧ ∃ w, sX9_write u (nI n) x = some w ∧ z.1 = w.1 ∧ ∃ m : Nat, m ≤ 200 ∧ z.2.2 = nI m ∧ w.2.2 = nI m ∧ ∀ i, i < m → w.2.1 i = z.2.1 i := by
  unfold sX8_write sX9_write
  rw [e_inN _ (by decide) (by decide), v_b]
  simp only [v_i]
  by_cases h : ((32 : Nat) : Int) ≤ x.toInt ∧ x.toInt ≤ ((126 : Nat) : Int)
  · rw [if_pos h, if_neg (show ¬ nI 1 = 0 by decide), if_neg (show ¬ x < nI 32 from by rw [i_lt, i_nI _ (by decide)]; omega), if_pos (show x ≤ nI 126 from by rw [i_le, i_nI _ (by decide)]; omega)]
    by_cases g : n = 200
    · subst g
      simp (disch := omega) only [v_b, v_l, v_i, v_g1, v_g, v_z0, v_z1, v_zif, nI_add, n_mul, n_sub, n_cl, n_le, n_lt, n_eq, n_eq0, n_le0, n_lt0, n_eqm, n_meq0, n_lem, z_add, v_t, v_f, Nat.reduceMul, Nat.reduceAdd, if_pos, if_neg]
      exact ⟨_, rfl, _, rfl, rfl, 200, by omega, rfl, rfl, he⟩
    · simp (disch := omega) only [v_b, v_l, v_i, v_g1, v_g, v_z0, v_z1, v_zif, nI_add, n_mul, n_sub, n_cl, n_le, n_lt, n_eq, n_eq0, n_le0, n_lt0, n_eqm, n_meq0, n_lem, z_add, v_t, v_f, Nat.reduceMul, Nat.reduceAdd, if_pos, if_neg, if_neg g]
      refine ⟨_, rfl, _, rfl, rfl, n + 1, by omega, rfl, rfl, fun i hi => ?_⟩
      by_cases q : i = n
      · simp only [u_eq q]
      · simp only [u_ne q]
        exact he i (by omega)
  · rw [if_neg h, if_pos nI_0]
    by_cases g : x < nI 32
    · rw [if_pos g]
      exact ⟨_, rfl, _, rfl, rfl, n, hn, rfl, rfl, he⟩
    · rw [if_neg g, if_neg (show ¬ x ≤ nI 126 from by rw [i_lt, i_nI _ (by decide)] at g; rw [i_le, i_nI _ (by decide)]; omega)]
      exact ⟨_, rfl, _, rfl, rfl, n, hn, rfl, rfl, he⟩

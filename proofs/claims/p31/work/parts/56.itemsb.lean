/-! values: words and likenesses of a text -/
abbrev ltr (x : Int32) : Prop := 97 ≤ x.toInt ∧ x.toInt ≤ 102
/-- how many letters of parts stand from a on, d at most; the bits of k of them -/
def wl (c : Nat → Int32) : Nat → Nat → Nat
  | 0, _ => 0
  | d + 1, a => if ltr (c a) then wl c d (a + 1) + 1 else 0
def wb (c : Nat → Int32) : Nat → Nat → Int32 → Int32
  | 0, _, b => b
  | k + 1, a, b => wb c k (a + 1) (b ||| ((nI 1) <<< ((c a - (nI 97)) &&& 31)))
theorem wl_le (c : Nat → Int32) : ∀ d a, wl c d a ≤ d := by
  intro d
  induction d with
  | zero => intro a; exact Nat.le_refl 0
  | succ d ih =>
    intro a
    by_cases h : ltr (c a)
    · rw [show wl c (d + 1) a = wl c d (a + 1) + 1 from if_pos h]; have := ih (a + 1); omega
    · rw [show wl c (d + 1) a = 0 from if_neg h]; omega
theorem wl_34 (c : Nat → Int32) : ∀ d a, wl c (d + 1) a = wl c d a ∨ (wl c d a = d ∧ wl c (d + 1) a = d + 1 ∧ ltr (c (a + d))) := by
  intro d
  induction d with
  | zero =>
    intro a
    by_cases h : ltr (c a)
    · exact Or.inr ⟨rfl, if_pos h, h⟩
    · exact Or.inl (if_neg h)
  | succ d ih =>
    intro a
    by_cases h : ltr (c a)
    · rw [show wl c (d + 1) a = wl c d (a + 1) + 1 from if_pos h, show wl c (d + 1 + 1) a = wl c (d + 1) (a + 1) + 1 from if_pos h]
      rcases ih (a + 1) with e | ⟨e1, e2, e3⟩
      · exact Or.inl (by rw [e])
      · refine Or.inr ⟨by rw [e1], by rw [e2], ?_⟩
        rw [show a + (d + 1) = a + 1 + d by omega]
        exact e3
    · rw [show wl c (d + 1) a = 0 from if_neg h, show wl c (d + 1 + 1) a = 0 from if_neg h]
      exact Or.inl rfl
def wordT (c com len par : Nat → Int32) (W : Nat) (y : Int32) (m : Nat) (b : Int32) (a : Nat) : Int32 × Int32 × (Nat → Int32) × (Nat → Int32) × (Nat → Int32) × Int32 :=
  if m = 0 then (nI 0, nI a, com, len, par, nI W) else if c a = nI 59 then (if W < 8 then (nI 1, nI (a + 1), upd com W y, upd len W (nI m), upd par W b, nI (W + 1)) else (nI 0, nI (a + 1), com, len, par, nI W)) else (nI 0, nI a, com, len, par, nI W)
theorem wtail {t com len par : Nat → Int32} {n W m a : Nat} (y b : Int32) (hW : W ≤ 8) (hm : m ≤ 3) (hn : n ≤ 200) (ha : a < 1000) : vi (nI m ≤ 0) inferInstance (some ((nI 0), nI a, com, len, par, nI W)) (vb (sX3_passes 200 t (nI n) (nI a) (nI 59)) fun z3 => vi (z3.1 = 0) inferInstance (some ((nI 0), z3.2, com, len, par, nI W)) (vb (sX0_addWord com len par (nI W) y (nI m) b) fun z5 => vi (z5.1 = 0) inferInstance (some ((nI 0), z3.2, z5.2.1, z5.2.2.1, z5.2.2.2.1, z5.2.2.2.2)) (some ((nI 1), z3.2, z5.2.1, z5.2.2.1, z5.2.2.2.1, z5.2.2.2.2)))) = some (wordT (ch t n) com len par W y m b a) := by
  unfold wordT sX0_addWord
  simp (disch := omega) only [v_b, v_l, v_i, v_g1, v_g, v_z0, v_z1, v_zif, nI_add, n_mul, n_sub, n_cl, n_le, n_lt, n_eq, n_eq0, n_le0, n_lt0, n_eqm, n_meq0, n_lem, z_add, v_t, v_f, Nat.reduceMul, Nat.reduceAdd, if_pos, if_neg, e_pass]
  by_cases h : m = 0
  · simp only [if_pos h]
  · simp only [if_neg h]
    by_cases g : ch t n a = nI 59
    · simp (disch := omega) only [if_pos g, v_b, v_l, v_i, v_g1, v_g, v_z0, v_z1, v_zif, nI_add, n_mul, n_sub, n_cl, n_le, n_lt, n_eq, n_eq0, n_le0, n_lt0, n_eqm, n_meq0, n_lem, z_add, v_t, v_f, Nat.reduceMul, Nat.reduceAdd, if_pos, if_neg]
      by_cases q : W < 8
      · simp (disch := omega) only [if_pos q, v_b, v_l, v_i, v_g1, v_g, v_z0, v_z1, v_zif, nI_add, n_mul, n_sub, n_cl, n_le, n_lt, n_eq, n_eq0, n_le0, n_lt0, n_eqm, n_meq0, n_lem, z_add, v_t, v_f, Nat.reduceMul, Nat.reduceAdd, if_pos, if_neg]
      · simp (disch := omega) only [if_neg q, v_b, v_l, v_i, v_g1, v_g, v_z0, v_z1, v_zif, nI_add, n_mul, n_sub, n_cl, n_le, n_lt, n_eq, n_eq0, n_le0, n_lt0, n_eqm, n_meq0, n_lem, z_add, v_t, v_f, Nat.reduceMul, Nat.reduceAdd, if_pos, if_neg]
    · simp (disch := omega) only [if_neg g, v_b, v_l, v_i, v_g1, v_g, v_z0, v_z1, v_zif, nI_add, n_mul, n_sub, n_cl, n_le, n_lt, n_eq, n_eq0, n_le0, n_lt0, n_eqm, n_meq0, n_lem, z_add, v_t, v_f, Nat.reduceMul, Nat.reduceAdd, if_pos, if_neg]
theorem w3_loop {t com len par : Nat → Int32} {n W : Nat} (y : Int32) (hW : W ≤ 8) (hn : n ≤ 200) : ∀ (d fuel m : Nat) (b : Int32) (a : Nat), d = 3 - m → m ≤ 3 → d < fuel → a + d < 900 → LX3_readWord_30 y t (nI n) com len par (nI W) 200 fuel (nI m) b (nI a) = some (wordT (ch t n) com len par W y (m + wl (ch t n) d a) (wb (ch t n) (wl (ch t n) d a) a b) (a + wl (ch t n) d a)) := by
  intro d
  induction d with
  | zero =>
    intro fuel m b a h1 h2 h3 h4
    obtain ⟨f, rfl⟩ : ∃ f, fuel = f + 1 := ⟨fuel - 1, by omega⟩
    have hm : m = 3 := by omega
    subst hm
    rw [LX3_readWord_30, v_i, if_pos (show nI 3 ≤ nI 3 from by rw [n_le (by decide) (by decide)]; omega), wtail y b hW (by omega) hn (by omega)]
    rfl
  | succ d ih =>
    intro fuel m b a h1 h2 h3 h4
    obtain ⟨f, rfl⟩ : ∃ f, fuel = f + 1 := ⟨fuel - 1, by omega⟩
    rw [LX3_readWord_30, v_i, if_neg (show ¬ nI 3 ≤ nI m from by rw [n_le (by decide) (by omega)]; omega), e_peek (by omega) (by decide) (by omega), v_b, v_i]
    by_cases hl : ltr (ch t n a)
    · rw [if_neg (show ¬ ch t n a < nI 97 from by rw [i_lt, i_nI _ (by decide)]; omega), v_b, v_i, if_neg (show ¬ nI 103 ≤ ch t n a from by rw [i_le, i_nI _ (by decide)]; omega), v_b, v_l, v_l, v_l, nI_add, nI_add, ih f (m + 1) _ (a + 1) (by omega) (by omega) (by omega) (by omega), show wl (ch t n) (d + 1) a = wl (ch t n) d (a + 1) + 1 from if_pos hl, show m + 1 + wl (ch t n) d (a + 1) = m + (wl (ch t n) d (a + 1) + 1) by omega, show a + 1 + wl (ch t n) d (a + 1) = a + (wl (ch t n) d (a + 1) + 1) by omega]
      rfl
    · have e : wl (ch t n) (d + 1) a = 0 := if_neg hl
      rw [e]
      by_cases p : ch t n a < nI 97
      · rw [if_pos p, wtail y b hW h2 hn (by omega)]
        rfl
      · rw [if_neg p, v_b, v_i, if_pos (show nI 103 ≤ ch t n a from by rw [i_lt, i_nI _ (by decide)] at p; rw [i_le, i_nI _ (by decide)]; omega), wtail y b hW h2 hn (by omega)]
        rfl
def wordU (r : Nat → Int32) (W : Nat) (y m b : Int32) : Nat → Int32 := upd (upd (upd (upd r (7 + W) y) (15 + W) m) (23 + W) b) 0 (nI (W + 1))
theorem e_word9 {r : Nat → Int32} {W : Nat} (hW : W < 8) (h0 : r 0 = nI W) (y m b : Int32) : sX9_word r y m b = some (wordU r W y m b) := by
  unfold sX9_word wordU
  simp (disch := omega) only [v_b, v_l, v_i, v_g1, v_g, v_z0, v_z1, v_zif, nI_add, n_mul, n_sub, n_cl, n_le, n_lt, n_eq, n_eq0, n_le0, n_lt0, n_eqm, n_meq0, n_lem, z_add, v_t, v_f, Nat.reduceMul, Nat.reduceAdd, if_pos, if_neg, h0, u_ne, u_eq]
def wordN (r : Nat → Int32) (W : Nat) (y v : Int32) (m : Nat) (b : Int32) (a : Nat) : Int32 × (Nat → Int32) × Int32 × Int32 :=
  if 1 ≤ m ∧ m ≤ 3 then (nI 1, wordU r W y (nI m) b, nI a, v) else (nI 0, r, nI a, v)
theorem wtail9 {r : Nat → Int32} {W m a : Nat} (y v b : Int32) (hW : W < 8) (h0 : r 0 = nI W) (hm : m ≤ 4) : (vb (sX9_in (Int32.toInt64 (nI m)) (lN 1) (lN 3)) fun z4 => vi (z4 = 0) inferInstance (some ((nI 0), r, nI a, v)) (vb (sX9_word r y (nI m) b) fun z6 => some ((nI 1), z6, nI a, v))) = some (wordN r W y v m b a) := by
  unfold wordN
  rw [e_inN _ (by decide) (by decide), i_nI _ (by omega), e_word9 hW h0]
  by_cases h : 1 ≤ m ∧ m ≤ 3
  · rw [if_pos h, if_pos (by omega)]
    simp (disch := omega) only [v_b, v_l, v_i, v_g1, v_g, v_z0, v_z1, v_zif, nI_add, n_mul, n_sub, n_cl, n_le, n_lt, n_eq, n_eq0, n_le0, n_lt0, n_eqm, n_meq0, n_lem, z_add, v_t, v_f, Nat.reduceMul, Nat.reduceAdd, if_pos, if_neg]
  · rw [if_neg h, if_neg (by omega)]
    simp (disch := omega) only [v_b, v_l, v_i, v_g1, v_g, v_z0, v_z1, v_zif, nI_add, n_mul, n_sub, n_cl, n_le, n_lt, n_eq, n_eq0, n_le0, n_lt0, n_eqm, n_meq0, n_lem, z_add, v_t, v_f, Nat.reduceMul, Nat.reduceAdd, if_pos, if_neg]
theorem w9_loop {t r : Nat → Int32} {n W : Nat} (y v : Int32) (hW : W < 8) (h0 : r 0 = nI W) (hn : n ≤ 200) : ∀ (d fuel m : Nat) (b : Int32) (a : Nat), d = 4 - m → m ≤ 4 → d < fuel → a + d < 900 → LX9_readsWord_43 y r t (nI n) v fuel (nI m) b (nI a) = some (wordN r W y v (m + wl (ch t n) d a) (wb (ch t n) (wl (ch t n) d a) a b) (a + wl (ch t n) d a)) := by
  intro d
  induction d with
  | zero =>
    intro fuel m b a h1 h2 h3 h4
    obtain ⟨f, rfl⟩ : ∃ f, fuel = f + 1 := ⟨fuel - 1, by omega⟩
    have hm : m = 4 := by omega
    subst hm
    rw [LX9_readsWord_43, e_here hn (by omega), v_b, e_inN _ (by decide) (by decide), v_b, wtail9 y v b hW h0 (by omega), v_i, v_i, if_pos (show nI 4 ≤ nI 4 from by rw [n_le (by decide) (by decide)]; omega)]
    by_cases q : (if ((97 : Nat) : Int) ≤ (he t n a).toInt ∧ (he t n a).toInt ≤ ((102 : Nat) : Int) then nI 1 else nI 0) = 0
    · rw [if_pos q]; rfl
    · rw [if_neg q]; rfl
  | succ d ih =>
    intro fuel m b a h1 h2 h3 h4
    obtain ⟨f, rfl⟩ : ∃ f, fuel = f + 1 := ⟨fuel - 1, by omega⟩
    rw [LX9_readsWord_43, e_here hn (by omega), v_b, e_inN _ (by decide) (by decide), v_b, wtail9 y v b hW h0 (by omega), v_i, v_i, if_neg (show ¬ nI 4 ≤ nI m from by rw [n_le (by decide) (by omega)]; omega), v_b]
    have hh : (((97 : Nat) : Int) ≤ (he t n a).toInt ∧ (he t n a).toInt ≤ ((102 : Nat) : Int)) = ltr (ch t n a) := he_rng (by decide)
    by_cases hl : ltr (ch t n a)
    · rw [if_pos (hh.mpr hl), if_neg (show ¬ nI 1 = 0 from by rw [n_eq0 (by decide)]; omega), he_eq (lo := 97) (by decide) hl.1, v_l, v_l, v_l, nI_add, nI_add, ih f (m + 1) _ (a + 1) (by omega) (by omega) (by omega) (by omega), show wl (ch t n) (d + 1) a = wl (ch t n) d (a + 1) + 1 from if_pos hl, show m + 1 + wl (ch t n) d (a + 1) = m + (wl (ch t n) d (a + 1) + 1) by omega, show a + 1 + wl (ch t n) d (a + 1) = a + (wl (ch t n) d (a + 1) + 1) by omega]
      rfl
    · have e : wl (ch t n) (d + 1) a = 0 := if_neg hl
      rw [e, if_neg (fun p => hl (hh.mp p)), if_pos nI_0]
      rfl
set_option maxHeartbeats 2000000 in
theorem it_word {t u : Nat → Int32} {n a W : Nat} (v : Int32) (r com len par : Nat → Int32) (hW : W ≤ 8) (h0 : r 0 = nI W) (hn : n ≤ 200) (ha : a < 500) (hc : ch u n = ch t n) : ∃ z, sX3_readWord 200 t (nI n) (nI a) com len par (nI W) = some z ∧ ∃ w, sX9_readsWord r u (nI n) (nI a) v = some w ∧ Out (ch t n) a z.1 z.2.1 w.1 w.2.2.1 (W < 8 ∧ ∃ (y m : Nat) (b : Int32), 1 ≤ y ∧ y ≤ 9 ∧ 1 ≤ m ∧ m ≤ 3 ∧ z.2.2.1 = upd com W (nI y) ∧ z.2.2.2.1 = upd len W (nI m) ∧ z.2.2.2.2.1 = upd par W b ∧ z.2.2.2.2.2 = nI (W + 1) ∧ w.2.1 = wordU r W (nI y) (nI m) b) := by
  unfold sX3_readWord sX9_readsWord
  have hA := numA_le (ch t n) a
  have h44 : 0 < (nI 44).toInt := by decide
  simp (disch := omega) only [v_b, v_i, n_cl, e_num3, e_num9, e_pass, e_take h44, hc, h0, n_eq]
  by_cases h : numOK (ch t n) a (nI 1) (nI 9)
  · obtain ⟨y, hy, hy2, e⟩ := numOK_N (by decide) (by decide) h
    simp (disch := omega) only [if_pos h, if_pos h.1, e, n_eqm, n_eq0, v_b, e_pass, e_take h44, hc]
    by_cases g : ch t n (numA (ch t n) a) = nI 44
    · simp (disch := omega) only [if_pos g, n_eq0, if_false, if_neg Nat.one_ne_zero]
      rw [w3_loop (nI y) hW hn 3 vF 0 (nI 0) (numA (ch t n) a + 1) rfl (by omega) (by decide) (by omega)]
      have h3 := wl_le (ch t n) 3 (numA (ch t n) a + 1)
      by_cases q : W = 8
      · simp only [if_pos q]
        refine ⟨_, rfl, _, rfl, Or.inl ⟨?_, Or.inl rfl⟩⟩
        unfold wordT
        split
        · rfl
        · split
          · rw [if_neg (by omega)]
          · rfl
      · simp only [if_neg q]
        rw [w9_loop (nI y) (nI y) (show W < 8 by omega) h0 hn 4 vF 0 (nI 0) (numA (ch t n) a + 1) rfl (by omega) (by decide) (by omega), hc]
        refine ⟨_, rfl, _, rfl, ?_⟩
        generalize hB : numA (ch t n) a + 1 = B
        rw [hB] at h3
        rcases wl_34 (ch t n) 3 B with k | ⟨k1, k2, k3⟩
        · rw [show (3 + 1 : Nat) = 4 from rfl] at k
          rw [k]
          generalize wl (ch t n) 3 B = k at h3 ⊢
          unfold wordT wordN
          rw [Nat.zero_add]
          by_cases k0 : k = 0
          · rw [if_pos k0, if_neg (by omega)]
            exact Or.inl ⟨rfl, Or.inl rfl⟩
          · rw [if_neg k0, if_pos (show 1 ≤ k ∧ k ≤ 3 by omega)]
            by_cases g2 : ch t n (B + k) = nI 59
            · rw [if_pos g2, if_pos (show W < 8 by omega)]
              exact Or.inr ⟨rfl, rfl, B + k, by omega, rfl, g2, rfl, by omega, y, k, _, hy, hy2, by omega, h3, rfl, rfl, rfl, rfl, rfl⟩
            · rw [if_neg g2]
              exact Or.inl ⟨rfl, Or.inr ⟨rfl, B + k, by omega, rfl, g2⟩⟩
        · rw [show (3 + 1 : Nat) = 4 from rfl] at k2
          rw [k1, k2]
          unfold wordT wordN
          rw [if_neg (show ¬ (0 + 3 = 0) by omega), if_neg (show ¬ (1 ≤ 0 + 4 ∧ 0 + 4 ≤ 3) by omega), if_neg (fun q2 => by
            have k5 := k3.1
            rw [show B + (0 + 3) = B + 3 by omega] at q2
            rw [q2, i_nI _ (by decide)] at k5
            omega)]
          exact Or.inl ⟨rfl, Or.inl rfl⟩
    · simp (disch := omega) only [if_neg g, n_eq0, if_true]
      by_cases q : W = 8
      · simp only [if_pos q]
        exact ⟨_, rfl, _, rfl, Or.inl ⟨rfl, Or.inl rfl⟩⟩
      · simp only [if_neg q]
        exact ⟨_, rfl, _, rfl, Or.inl ⟨rfl, Or.inl rfl⟩⟩
  · simp (disch := omega) only [if_neg h, n_eq0, if_true]
    by_cases q : W = 8
    · simp only [if_pos q]
      exact ⟨_, rfl, _, rfl, Or.inl ⟨rfl, Or.inl rfl⟩⟩
    · simp only [if_neg q]
      exact ⟨_, rfl, _, rfl, Or.inl ⟨rfl, Or.inl rfl⟩⟩
/-! likenesses: which words are in the row so far -/
def pc (S : Nat) : Nat := S % 2 + S / 2 % 2 + S / 4 % 2 + S / 8 % 2 + S / 16 % 2 + S / 32 % 2 + S / 64 % 2 + S / 128 % 2
abbrev hasB (x y : Int32) : Prop := ((x >>> (y &&& 31)) &&& (nI 1)) = (nI 1)
set_option maxRecDepth 100000 in
theorem bitsF : ∀ S, S < 256 → ∀ d, d < 8 → (hasB (nI S) (nI d) ∧ pc S ≤ 8) ∨ (¬ hasB (nI S) (nI d) ∧ nI S ||| ((nI 1) <<< (nI d &&& 31)) = nI (S + 2 ^ d) ∧ pc (S + 2 ^ d) = pc S + 1 ∧ S + 2 ^ d < 256 ∧ pc S < 8) := by decide +kernel
def likT (c lik : Nat → Int32) (L S a : Nat) : Int32 × Int32 × (Nat → Int32) × Int32 :=
  if S = 0 then (nI 0, nI a, lik, nI L) else if c a = nI 59 then (if L < 6 then (nI 1, nI (a + 1), upd lik L (nI S), nI (L + 1)) else (nI 0, nI (a + 1), lik, nI L)) else (nI 0, nI a, lik, nI L)
theorem ltail {t lik : Nat → Int32} {n L S a : Nat} (hL : L ≤ 6) (hS : S < 256) (hn : n ≤ 200) (ha : a < 1000) : vi (nI S = 0) inferInstance (some ((nI 0), nI a, lik, nI L)) (vb (sX3_passes 200 t (nI n) (nI a) (nI 59)) fun z3 => vi (z3.1 = 0) inferInstance (some ((nI 0), z3.2, lik, nI L)) (vb (sX0_addLikeness lik (nI L) (nI S)) fun z5 => vi (z5.1 = 0) inferInstance (some ((nI 0), z3.2, z5.2.1, z5.2.2)) (some ((nI 1), z3.2, z5.2.1, z5.2.2)))) = some (likT (ch t n) lik L S a) := by
  unfold likT sX0_addLikeness
  simp (disch := omega) only [v_b, v_l, v_i, v_g1, v_g, v_z0, v_z1, v_zif, nI_add, n_mul, n_sub, n_cl, n_le, n_lt, n_eq, n_eq0, n_le0, n_lt0, n_eqm, n_meq0, n_lem, z_add, v_t, v_f, Nat.reduceMul, Nat.reduceAdd, if_pos, if_neg, e_pass]
  by_cases h : S = 0
  · simp only [if_pos h]
  · simp only [if_neg h]
    by_cases g : ch t n a = nI 59
    · simp (disch := omega) only [if_pos g, v_b, v_l, v_i, v_g1, v_g, v_z0, v_z1, v_zif, nI_add, n_mul, n_sub, n_cl, n_le, n_lt, n_eq, n_eq0, n_le0, n_lt0, n_eqm, n_meq0, n_lem, z_add, v_t, v_f, Nat.reduceMul, Nat.reduceAdd, if_pos, if_neg]
      by_cases q : L < 6
      · simp (disch := omega) only [if_pos q, v_b, v_l, v_i, v_g1, v_g, v_z0, v_z1, v_zif, nI_add, n_mul, n_sub, n_cl, n_le, n_lt, n_eq, n_eq0, n_le0, n_lt0, n_eqm, n_meq0, n_lem, z_add, v_t, v_f, Nat.reduceMul, Nat.reduceAdd, if_pos, if_neg]
      · simp (disch := omega) only [if_neg q, v_b, v_l, v_i, v_g1, v_g, v_z0, v_z1, v_zif, nI_add, n_mul, n_sub, n_cl, n_le, n_lt, n_eq, n_eq0, n_le0, n_lt0, n_eqm, n_meq0, n_lem, z_add, v_t, v_f, Nat.reduceMul, Nat.reduceAdd, if_pos, if_neg]
    · simp (disch := omega) only [if_neg g, v_b, v_l, v_i, v_g1, v_g, v_z0, v_z1, v_zif, nI_add, n_mul, n_sub, n_cl, n_le, n_lt, n_eq, n_eq0, n_le0, n_lt0, n_eqm, n_meq0, n_lem, z_add, v_t, v_f, Nat.reduceMul, Nat.reduceAdd, if_pos, if_neg]
def likG (lik r : Nat → Int32) (L : Nat) (z : Int32 × Int32 × (Nat → Int32) × Int32) (w : Int32 × (Nat → Int32) × Int32) : Prop := L < 6 ∧ ∃ B, z.2.2.1 = upd lik L B ∧ z.2.2.2 = nI (L + 1) ∧ w.2.1 = upd (upd r (31 + L) B) 1 (nI (L + 1))
/-- the reference where no figure stands -/
theorem lk_stop {t r lik : Nat → Int32} {n L S a f : Nat} (hL : L ≤ 6) (h1 : r 1 = nI L) (hS : S < 256) (hn : n ≤ 200) (ha : a < 900) (hf : ¬ fig (ch t n a)) : ∃ w, LX9_readsLikeness_2 r t (nI n) (f + 1) (nI S) (nI a) = some w ∧ Out (ch t n) a (likT (ch t n) lik L S a).1 (likT (ch t n) lik L S a).2.1 w.1 w.2.2 (likG lik r L (likT (ch t n) lik L S a) w) ∧ (¬ ch t n a = nI 59 → w.1 = nI 0 ∨ w.1 = nI 1 ∧ ∃ b, b < 1000 ∧ w.2.2 = nI b ∧ ¬ ch t n b = nI 59) := by
  rw [LX9_readsLikeness_2]
  have hh : fig (he t n a) = fig (ch t n a) := he_rng (by decide)
  rw [e_here hn (by omega), v_b, e_fig9, v_b, if_neg (fun p => hf (hh.mp p)), v_i, if_pos nI_0]
  simp (disch := omega) only [v_b, v_l, v_i, v_g1, v_g, v_z0, v_z1, v_zif, nI_add, n_mul, n_sub, n_cl, n_le, n_lt, n_eq, n_eq0, n_le0, n_lt0, n_eqm, n_meq0, n_lem, z_add, v_t, v_f, Nat.reduceMul, Nat.reduceAdd, if_pos, if_neg, h1, u_ne, u_eq]
  unfold likT
  by_cases h : S = 0
  · simp only [if_pos h]
    exact ⟨_, rfl, Or.inl ⟨rfl, Or.inl rfl⟩, fun _ => Or.inl rfl⟩
  · simp only [if_neg h]
    by_cases q : L = 6
    · simp only [if_pos q, if_neg (show ¬ L < 6 by omega)]
      refine ⟨_, rfl, ?_, fun _ => Or.inl rfl⟩
      split
      · exact Or.inl ⟨rfl, Or.inl rfl⟩
      · exact Or.inl ⟨rfl, Or.inl rfl⟩
    · simp (disch := omega) only [if_neg q, v_b, v_l, v_i, v_g1, v_g, v_z0, v_z1, v_zif, nI_add, n_mul, n_sub, n_cl, n_le, n_lt, n_eq, n_eq0, n_le0, n_lt0, n_eqm, n_meq0, n_lem, z_add, v_t, v_f, Nat.reduceMul, Nat.reduceAdd, if_pos, if_neg]
      refine ⟨_, rfl, ?_, fun g => Or.inr ⟨rfl, a, by omega, rfl, g⟩⟩
      by_cases g : ch t n a = nI 59
      · simp only [if_pos g, if_pos (show L < 6 by omega)]
        exact Or.inr ⟨rfl, rfl, a, by omega, rfl, g, rfl, by omega, nI S, rfl, rfl, rfl⟩
      · simp only [if_neg g]
        exact Or.inl ⟨rfl, Or.inr ⟨rfl, a, by omega, rfl, g⟩⟩
theorem fig_N {x : Int32} (h : fig x) : ∃ e : Nat, e ≤ 9 ∧ x - nI 48 = nI e := by
  refine ⟨x.toInt.toNat - 48, by omega, ?_⟩
  rw [i_eq, i_sub, i_nI _ (by decide), i_nI _ (by omega)]
  omega
theorem Out_mono {c : Nat → Int32} {a a' : Nat} {z1 z2 w1 w2 : Int32} {g g' : Prop} (h : a' ≤ a) (hg : g → g') (o : Out c a z1 z2 w1 w2 g) : Out c a' z1 z2 w1 w2 g' := by
  rcases o with o | ⟨o1, o2, b, o3, o4, o5, o6, o7⟩
  · exact Or.inl o
  · exact Or.inr ⟨o1, o2, b, by omega, o4, o5, o6, hg o7⟩
set_option maxHeartbeats 2000000 in
theorem lk_loop {t u r lik : Nat → Int32} {n W L : Nat} (hW : W ≤ 8) (hL : L ≤ 6) (h0 : r 0 = nI W) (h1 : r 1 = nI L) (hn : n ≤ 200) (hc : ch u n = ch t n) : ∀ (d f1 f2 m S a : Nat), d = 8 - m → m ≤ 8 → S < 256 → pc S = m → d < f1 → d < f2 → a + d < 900 → ∃ z, LX3_readLikeness_4 t (nI n) lik (nI W) (nI L) 200 f1 (nI S) (nI m) (nI a) = some z ∧ ∃ w, LX9_readsLikeness_2 r u (nI n) f2 (nI S) (nI a) = some w ∧ Out (ch t n) a z.1 z.2.1 w.1 w.2.2 (likG lik r L z w) := by
  intro d
  induction d with
  | zero =>
    intro f1 f2 m S a q1 q2 q3 q4 q5 q6 q7
    obtain ⟨g1, rfl⟩ : ∃ f, f1 = f + 1 := ⟨f1 - 1, by omega⟩
    obtain ⟨g2, rfl⟩ : ∃ f, f2 = f + 1 := ⟨f2 - 1, by omega⟩
    have hm : m = 8 := by omega
    rw [LX3_readLikeness_4, v_i, if_pos (show nI 8 ≤ nI m from by rw [n_le (by decide) (by omega)]; omega), ltail hL q3 hn (by omega)]
    refine ⟨_, rfl, ?_⟩
    by_cases hf : fig (ch t n a)
    · obtain ⟨e, he1, he2⟩ := fig_N hf
      have hh : fig (he u n a) = fig (ch u n a) := he_rng (by decide)
      rw [LX9_readsLikeness_2, e_here hn (by omega), v_b, e_fig9, v_b, if_pos (hh.mpr (by rw [hc]; exact hf)), vi_n n10, v_b, he_eq (lo := 48) (by decide) (by rw [hc]; exact hf.1), hc, he2, v_l, n_cl (by decide), h0]
      have hz : (likT (ch t n) lik L S a).1 = nI 0 := by
        unfold likT
        split
        · rfl
        · rw [if_neg (fun p => fig59 hf p)]
      by_cases k : nI W ≤ nI e
      · rw [vi_p k]
        exact ⟨_, rfl, Or.inl ⟨hz, Or.inl rfl⟩⟩
      · rw [vi_n k, e_has, v_b]
        rw [n_le (by omega) (by omega)] at k
        rcases bitsF S q3 e (by omega) with ⟨b1, _⟩ | ⟨_, _, _, _, b5⟩
        · rw [if_pos b1, vi_n n10]
          exact ⟨_, rfl, Or.inl ⟨hz, Or.inl rfl⟩⟩
        · omega
    · obtain ⟨w, w1, w2, _⟩ := lk_stop (t := u) (a := a) (lik := lik) (f := g2) hL h1 q3 hn (by omega) (by rw [hc]; exact hf)
      rw [hc] at w2
      exact ⟨w, w1, w2⟩
  | succ d ih =>
    intro f1 f2 m S a q1 q2 q3 q4 q5 q6 q7
    obtain ⟨g1, rfl⟩ : ∃ f, f1 = f + 1 := ⟨f1 - 1, by omega⟩
    obtain ⟨g2, rfl⟩ : ∃ f, f2 = f + 1 := ⟨f2 - 1, by omega⟩
    rw [LX3_readLikeness_4, v_i, if_neg (show ¬ nI 8 ≤ nI m from by rw [n_le (by decide) (by omega)]; omega), e_peek (by omega) (by decide) (by omega), v_b, v_i, ltail hL q3 hn (by omega)]
    by_cases hs : ch t n a = nI 59
    · rw [if_pos hs]
      obtain ⟨w, w1, w2, _⟩ := lk_stop (t := u) (a := a) (lik := lik) (f := g2) hL h1 q3 hn (by omega) (show ¬ fig (ch u n a) from fun p => fig59 p (by rw [hc]; exact hs))
      rw [hc] at w2
      exact ⟨_, rfl, w, w1, w2⟩
    · rw [if_neg hs, v_b, v_l]
      by_cases hf : fig (ch t n a)
      · obtain ⟨e, he1, he2⟩ := fig_N hf
        have hh : fig (he u n a) = fig (ch u n a) := he_rng (by decide)
        rw [LX9_readsLikeness_2, e_here hn (by omega), v_b, e_fig9, v_b, if_pos (hh.mpr (by rw [hc]; exact hf)), vi_n n10, v_b, he_eq (lo := 48) (by decide) (by rw [hc]; exact hf.1), hc, he2]
        simp only [v_l]
        rw [n_cl (by decide), h0, vi_n (show ¬ nI e < 0 from nI_pos (by omega)), sX0_words, v_b]
        by_cases k : nI W ≤ nI e
        · rw [vi_p k, vi_p k]
          exact ⟨_, rfl, _, rfl, Or.inl ⟨rfl, Or.inl rfl⟩⟩
        · rw [vi_n k, vi_n k, e_has, v_b]
          rw [n_le (by omega) (by omega)] at k
          rcases bitsF S q3 e (by omega) with ⟨b1, _⟩ | ⟨b1, b2, b3, b4, b5⟩
          · rw [vi_p b1, if_pos b1, vi_n n10]
            exact ⟨_, rfl, _, rfl, Or.inl ⟨rfl, Or.inl rfl⟩⟩
          · rw [vi_n b1, if_neg b1, vi_p nI_0, b2, nI_add, nI_add]
            obtain ⟨z, z1, w, w1, o⟩ := ih g1 g2 (m + 1) (S + 2 ^ e) (a + 1) (by omega) (by omega) b4 (by omega) (by omega) (by omega) (by omega)
            exact ⟨z, z1, w, w1, Out_mono (by omega) id o⟩
      · obtain ⟨w, w1, _, w3⟩ := lk_stop (t := u) (a := a) (lik := lik) (f := g2) hL h1 q3 hn (by omega) (by rw [hc]; exact hf)
        rw [hc] at w3
        have key : ∀ x : Int32, ¬ fig x → x - nI 48 < 0 ∨ ¬ x - nI 48 < 0 ∧ nI W ≤ x - nI 48 := by
          intro x hx
          rw [i_lt, i_le, i_sub, i_nI _ (by decide), i_nI _ (by omega), i_0]
          have := i_lo x
          have := i_hi x
          omega
        rcases key _ hf with k | ⟨k, k2⟩
        · rw [vi_p k]
          exact ⟨_, rfl, w, w1, Or.inl ⟨rfl, w3 hs⟩⟩
        · rw [vi_n k, sX0_words, v_b, vi_p k2]
          exact ⟨_, rfl, w, w1, Or.inl ⟨rfl, w3 hs⟩⟩
theorem it_like {t u : Nat → Int32} {n a W L : Nat} (r lik : Nat → Int32) (hW : W ≤ 8) (hL : L ≤ 6) (h0 : r 0 = nI W) (h1 : r 1 = nI L) (hn : n ≤ 200) (ha : a < 500) (hc : ch u n = ch t n) : ∃ z, sX3_readLikeness 200 t (nI n) (nI a) lik (nI W) (nI L) = some z ∧ ∃ w, sX9_readsLikeness r u (nI n) (nI a) = some w ∧ Out (ch t n) a z.1 z.2.1 w.1 w.2.2 (likG lik r L z w) := by
  unfold sX3_readLikeness sX9_readsLikeness
  exact lk_loop hW hL h0 h1 hn hc 8 vF vF 0 0 a rfl (by omega) (by omega) rfl (by decide) (by decide) (by omega)

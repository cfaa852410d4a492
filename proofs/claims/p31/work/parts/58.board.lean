/-! values: what both sides say of the board -/
theorem n_div {a b : Nat} (ha : a < 2147483648) (hb : b < 2147483648) : nI a / nI b = nI (a / b) := (Int32.ofNat_div ha hb).symm
theorem e_isWord3 {W : Nat} (hW : W ≤ 8) (x : Int32) : sX8_isWord (nI W) x = some (if 0 ≤ x.toInt ∧ x.toInt < W then nI 1 else nI 0) := by
  unfold sX8_isWord sX0_words
  simp only [v_i, v_b, i_lt, i_le, i_0, i_nI W (by omega)]
  by_cases h : x.toInt < 0
  · rw [if_pos h, if_neg (by omega)]
  · rw [if_neg h]
    by_cases g : (W : Int) ≤ x.toInt
    · rw [if_pos g, if_neg (by omega)]
    · rw [if_neg g, if_pos (by omega)]
theorem e_isSign3 {L : Nat} (hL : L ≤ 6) (x : Int32) : sX8_isSign (nI L) x = some (if 0 ≤ x.toInt ∧ x.toInt < ((9 + L : Nat) : Int) then nI 1 else nI 0) := by
  unfold sX8_isSign sX0_signs
  simp only [v_i, v_b, nI_add, i_lt, i_le, i_0, i_nI (9 + L) (by omega)]
  by_cases h : x.toInt < 0
  · rw [if_pos h, if_neg (by omega)]
  · rw [if_neg h]
    by_cases g : ((9 + L : Nat) : Int) ≤ x.toInt
    · rw [if_pos g, if_neg (by omega)]
    · rw [if_neg g, if_pos (by omega)]
theorem e_isActor3 {A : Nat} (hA : A ≤ 5) (x : Int32) : sX8_isActor (nI A) x = some (if 0 ≤ x.toInt ∧ x.toInt < A then nI 1 else nI 0) := by
  unfold sX8_isActor sX0_actors
  simp only [v_i, v_b, i_lt, i_le, i_0, i_nI A (by omega)]
  by_cases h : x.toInt < 0
  · rw [if_pos h, if_neg (by omega)]
  · rw [if_neg h]
    by_cases g : (A : Int) ≤ x.toInt
    · rw [if_pos g, if_neg (by omega)]
    · rw [if_neg g, if_pos (by omega)]
theorem e_inM {M : Nat} (hM : M ≤ 1000) (x : Int32) : sX9_in x.toInt64 (lN 0) (Int32.toInt64 (nI M - nI 1)) = some (if 0 ≤ x.toInt ∧ x.toInt < M then nI 1 else nI 0) := by
  rw [e_in0]
  have e : (nI M - nI 1).toInt = (M : Int) - 1 := by
    rw [i_sub, i_nI _ (by omega), i_nI _ (by decide)]
    omega
  rw [e]
  by_cases h : 0 ≤ x.toInt ∧ x.toInt < M
  · rw [if_pos h, if_pos (by omega)]
  · rw [if_neg h, if_neg (by omega)]
theorem e_isWord9 {r : Nat → Int32} {W : Nat} (hW : W ≤ 8) (h0 : r 0 = nI W) (x : Int32) : sX9_isWord r x = some (if 0 ≤ x.toInt ∧ x.toInt < W then nI 1 else nI 0) := by
  unfold sX9_isWord
  rw [n_cl (by decide), h0, e_inM (by omega), v_b, v_zif, v_g1]
theorem e_isActor9 {r : Nat → Int32} {A : Nat} (hA : A ≤ 5) (h2 : r 2 = nI A) (x : Int32) : sX9_isActor r x = some (if 0 ≤ x.toInt ∧ x.toInt < A then nI 1 else nI 0) := by
  unfold sX9_isActor
  rw [n_cl (by decide), h2, e_inM (by omega), v_b, v_zif, v_g1]
theorem e_isSign9 {r : Nat → Int32} {L : Nat} (hL : L ≤ 6) (h1 : r 1 = nI L) (x : Int32) : sX9_isSign r x = some (if 0 ≤ x.toInt ∧ x.toInt < ((9 + L : Nat) : Int) then nI 1 else nI 0) := by
  unfold sX9_isSign sX9_signs
  rw [n_cl (by decide), h1, v_b, nI_add, e_inM (by omega), v_b, v_zif, v_g1]
/-! word -/
theorem e_isIn {lik : Nat → Int32} {l : Nat} (hl : l < 6) (x : Int32) : sX0_isIn lik x (nI l) = some (if hasB (lik l) x then nI 1 else nI 0) := by
  unfold sX0_isIn
  simp (disch := omega) only [v_b, v_l, v_i, v_g1, v_g, v_z0, v_z1, v_zif, nI_add, n_mul, n_sub, n_cl, n_le, n_lt, n_eq, n_eq0, n_le0, n_lt0, n_eqm, n_meq0, n_lem, z_add, v_t, v_f, Nat.reduceMul, Nat.reduceAdd, if_pos, if_neg]
  by_cases h : hasB (lik l) x
  · simp only [if_pos h]
  · simp only [if_neg h]
theorem likes_loop {lik r : Nat → Int32} {L : Nat} (x : Int32) (hL : L ≤ 6) (h1 : r 1 = nI L) (hl : ∀ i, i < L → lik i = r (31 + i)) : ∀ (d f1 f2 l : Nat) (b : Int32), d = L - l → l ≤ L → d < f1 → d < f2 → ∃ y, LX0_likenessesOf_4 x lik (nI L) f1 b (nI l) = some y ∧ LX9_likesOf_4 x r f2 b (nI l) = some y := by
  intro d
  induction d with
  | zero =>
    intro f1 f2 l b q1 q2 q3 q4
    obtain ⟨g1, rfl⟩ : ∃ f, f1 = f + 1 := ⟨f1 - 1, by omega⟩
    obtain ⟨g2, rfl⟩ : ∃ f, f2 = f + 1 := ⟨f2 - 1, by omega⟩
    rw [LX0_likenessesOf_4, LX9_likesOf_4]
    simp (disch := omega) only [v_b, v_l, v_i, v_g1, v_g, v_z0, v_z1, v_zif, nI_add, n_mul, n_sub, n_cl, n_le, n_lt, n_eq, n_eq0, n_le0, n_lt0, n_eqm, n_meq0, n_lem, z_add, v_t, v_f, Nat.reduceMul, Nat.reduceAdd, if_pos, if_neg, h1]
    exact ⟨b, rfl, rfl⟩
  | succ d ih =>
    intro f1 f2 l b q1 q2 q3 q4
    obtain ⟨g1, rfl⟩ : ∃ f, f1 = f + 1 := ⟨f1 - 1, by omega⟩
    obtain ⟨g2, rfl⟩ : ∃ f, f2 = f + 1 := ⟨f2 - 1, by omega⟩
    rw [LX0_likenessesOf_4, LX9_likesOf_4]
    simp (disch := omega) only [v_b, v_l, v_i, v_g1, v_g, v_z0, v_z1, v_zif, nI_add, n_mul, n_sub, n_cl, n_le, n_lt, n_eq, n_eq0, n_le0, n_lt0, n_eqm, n_meq0, n_lem, z_add, v_t, v_f, Nat.reduceMul, Nat.reduceAdd, if_pos, if_neg, h1, e_isIn, e_has, hl]
    by_cases h : hasB (r (31 + l)) x
    · simp (disch := omega) only [if_pos h, v_b, v_l, v_i, v_g1, v_g, v_z0, v_z1, v_zif, nI_add, n_mul, n_sub, n_cl, n_le, n_lt, n_eq, n_eq0, n_le0, n_lt0, n_eqm, n_meq0, n_lem, z_add, v_t, v_f, Nat.reduceMul, Nat.reduceAdd, if_pos, if_neg]
      exact ih g1 g2 (l + 1) _ (by omega) (by omega) (by omega) (by omega)
    · simp (disch := omega) only [if_neg h, v_b, v_l, v_i, v_g1, v_g, v_z0, v_z1, v_zif, nI_add, n_mul, n_sub, n_cl, n_le, n_lt, n_eq, n_eq0, n_le0, n_lt0, n_eqm, n_meq0, n_lem, z_add, v_t, v_f, Nat.reduceMul, Nat.reduceAdd, if_pos, if_neg, or_n0]
      exact ih g1 g2 (l + 1) _ (by omega) (by omega) (by omega) (by omega)
section BOARD
variable {W L A : Nat} {com len par lik : Nat → Int32} {fb hb pr : Int32} {r : Nat → Int32}
set_option maxHeartbeats 2000000 in
theorem q_word (hB : RB W L A com len par lik fb hb pr r) (x y : Int32) : ∃ z, sX8_word com len par lik (nI W) (nI L) x y = some z ∧ sX9_word_ r x y = some z := by
  obtain ⟨⟨b1, b2, b3⟩, ⟨h0, h1, h2, h3, h6⟩, -, -, hw, hl⟩ := hB
  unfold sX8_word sX9_word_
  rw [e_isWord3 b1, e_isWord9 b1 h0, v_b, v_b]
  by_cases h : 0 ≤ x.toInt ∧ x.toInt < W
  · obtain ⟨w, hw1, rfl⟩ := n_ofN (N := W) h.1 h.2
    obtain ⟨c1, c2, c3, -⟩ := hw w hw1
    simp (disch := omega) only [if_pos h, v_b, v_l, v_i, v_g1, v_g, v_z0, v_z1, v_zif, nI_add, n_mul, n_sub, n_cl, n_le, n_lt, n_eq, n_eq0, n_le0, n_lt0, n_eqm, n_meq0, n_lem, z_add, v_t, v_f, Nat.reduceMul, Nat.reduceAdd, if_pos, if_neg, e_inN]
    by_cases g : ((0 : Nat) : Int) ≤ y.toInt ∧ y.toInt ≤ ((3 : Nat) : Int)
    · obtain ⟨k, hk, rfl⟩ := n_ofN (x := y) (N := 4) (by omega) (by omega)
      simp (disch := omega) only [if_pos g, v_b, v_l, v_i, v_g1, v_g, v_z0, v_z1, v_zif, nI_add, n_mul, n_sub, n_cl, n_le, n_lt, n_eq, n_eq0, n_le0, n_lt0, n_eqm, n_meq0, n_lem, z_add, v_t, v_f, Nat.reduceMul, Nat.reduceAdd, if_pos, if_neg, sX0_commonOf, sX0_lengthOf, sX0_partsOf, sX0_likenessesOf, sX9_likesOf]
      obtain ⟨z, z1, z2⟩ := likes_loop (r := r) (nI w) b2 h1 hl L vF vF 0 (nI 0) rfl (by omega) (by show L < 20000; omega) (by show L < 20000; omega)
      rcases (show k = 0 ∨ k = 1 ∨ k = 2 ∨ k = 3 by omega) with rfl | rfl | rfl | rfl
      · simp (disch := omega) only [v_b, v_l, v_i, v_g1, v_g, v_z0, v_z1, v_zif, nI_add, n_mul, n_sub, n_cl, n_le, n_lt, n_eq, n_eq0, n_le0, n_lt0, n_eqm, n_meq0, n_lem, z_add, v_t, v_f, Nat.reduceMul, Nat.reduceAdd, if_pos, if_neg]
        exact ⟨_, rfl, congrArg some (by rw [c1])⟩
      · simp (disch := omega) only [v_b, v_l, v_i, v_g1, v_g, v_z0, v_z1, v_zif, nI_add, n_mul, n_sub, n_cl, n_le, n_lt, n_eq, n_eq0, n_le0, n_lt0, n_eqm, n_meq0, n_lem, z_add, v_t, v_f, Nat.reduceMul, Nat.reduceAdd, if_pos, if_neg]
        exact ⟨_, rfl, congrArg some (by rw [c2])⟩
      · simp (disch := omega) only [v_b, v_l, v_i, v_g1, v_g, v_z0, v_z1, v_zif, nI_add, n_mul, n_sub, n_cl, n_le, n_lt, n_eq, n_eq0, n_le0, n_lt0, n_eqm, n_meq0, n_lem, z_add, v_t, v_f, Nat.reduceMul, Nat.reduceAdd, if_pos, if_neg]
        exact ⟨_, rfl, congrArg some (by rw [c3])⟩
      · simp (disch := omega) only [v_b, v_l, v_i, v_g1, v_g, v_z0, v_z1, v_zif, nI_add, n_mul, n_sub, n_cl, n_le, n_lt, n_eq, n_eq0, n_le0, n_lt0, n_eqm, n_meq0, n_lem, z_add, v_t, v_f, Nat.reduceMul, Nat.reduceAdd, if_pos, if_neg, z1, z2]
        exact ⟨_, rfl, rfl⟩
    · simp (disch := omega) only [if_neg g, v_b, v_l, v_i, v_g1, v_g, v_z0, v_z1, v_zif, nI_add, n_mul, n_sub, n_cl, n_le, n_lt, n_eq, n_eq0, n_le0, n_lt0, n_eqm, n_meq0, n_lem, z_add, v_t, v_f, Nat.reduceMul, Nat.reduceAdd, if_pos, if_neg]
      rw [if_neg (fun e => g (by rw [e]; decide)), if_neg (fun e => g (by rw [e]; decide)), if_neg (fun e => g (by rw [e]; decide)), if_neg (fun e => g (by rw [e]; decide))]
      exact ⟨_, rfl, rfl⟩
  · simp (disch := omega) only [if_neg h, v_b, v_l, v_i, v_g1, v_g, v_z0, v_z1, v_zif, nI_add, n_mul, n_sub, n_cl, n_le, n_lt, n_eq, n_eq0, n_le0, n_lt0, n_eqm, n_meq0, n_lem, z_add, v_t, v_f, Nat.reduceMul, Nat.reduceAdd, if_pos, if_neg]
    exact ⟨_, rfl, rfl⟩
theorem and_1 (y : Int32) : y &&& nI 1 = if y &&& nI 1 = nI 1 then nI 1 else nI 0 := by
  by_cases h : y &&& nI 1 = nI 1
  · rw [if_pos h, h]
  · rw [if_neg h]
    have e : (y &&& nI 1).toBitVec.toNat = y.toBitVec.toNat % 2 := by
      rw [Int32.toBitVec_and, BitVec.toNat_and, show (nI 1).toBitVec.toNat = 1 from rfl, Nat.and_one_is_mod]
    have k : y.toBitVec.toNat % 2 = 0 ∨ y.toBitVec.toNat % 2 = 1 := by omega
    rcases k with k | k
    · exact Int32.toBitVec_inj.mp (BitVec.eq_of_toNat_eq ((e.trans k).trans (show 0 = (nI 0).toBitVec.toNat from rfl)))
    · exact absurd (Int32.toBitVec_inj.mp (BitVec.eq_of_toNat_eq ((e.trans k).trans (show 1 = (nI 1).toBitVec.toNat from rfl)))) h
theorem q_forbidden (hB : RB W L A com len par lik fb hb pr r) (x : Int32) : ∃ z, sX8_forbidden (nI L) fb x = some z ∧ sX9_forbidden r x = some z := by
  obtain ⟨⟨b1, b2, b3⟩, ⟨h0, h1, h2, h3, h6⟩, -, -, hw, hl⟩ := hB
  unfold sX8_forbidden sX9_forbidden sX0_isForbidden
  rw [e_isSign3 b2, e_isSign9 b2 h1, v_b, v_b]
  by_cases h : 0 ≤ x.toInt ∧ x.toInt < ((9 + L : Nat) : Int)
  · simp (disch := omega) only [if_pos h, v_b, v_l, v_i, v_g1, v_g, v_z0, v_z1, v_zif, nI_add, n_mul, n_sub, n_cl, n_le, n_lt, n_eq, n_eq0, n_le0, n_lt0, n_eqm, n_meq0, n_lem, z_add, v_t, v_f, Nat.reduceMul, Nat.reduceAdd, if_pos, if_neg, h3]
    rw [and_1]
    by_cases g : (fb >>> (x &&& 31)) &&& nI 1 = nI 1
    · simp (disch := omega) only [if_pos g, v_b, v_l, v_i, v_g1, v_g, v_z0, v_z1, v_zif, nI_add, n_mul, n_sub, n_cl, n_le, n_lt, n_eq, n_eq0, n_le0, n_lt0, n_eqm, n_meq0, n_lem, z_add, v_t, v_f, Nat.reduceMul, Nat.reduceAdd, if_pos, if_neg]
      exact ⟨_, rfl, rfl⟩
    · simp (disch := omega) only [if_neg g, v_b, v_l, v_i, v_g1, v_g, v_z0, v_z1, v_zif, nI_add, n_mul, n_sub, n_cl, n_le, n_lt, n_eq, n_eq0, n_le0, n_lt0, n_eqm, n_meq0, n_lem, z_add, v_t, v_f, Nat.reduceMul, Nat.reduceAdd, if_pos, if_neg]
      exact ⟨_, rfl, rfl⟩
  · simp (disch := omega) only [if_neg h, v_b, v_l, v_i, v_g1, v_g, v_z0, v_z1, v_zif, nI_add, n_mul, n_sub, n_cl, n_le, n_lt, n_eq, n_eq0, n_le0, n_lt0, n_eqm, n_meq0, n_lem, z_add, v_t, v_f, Nat.reduceMul, Nat.reduceAdd, if_pos, if_neg]
    exact ⟨_, rfl, rfl⟩
/-! by what a sign multiplies -/
def fac (r : Nat → Int32) (kd : Int32) (w s x y : Nat) : Int32 :=
  if s < 6 then (if hasB (r (23 + w)) (nI (if kd = nI 1 then (s + 1) - (s + 1) / 6 * 6 else s)) then (if kd = nI 2 then nI y * nI y else nI y) else nI 1)
  else if s < 9 then (if r (15 + w) = nI (s - 5) then nI 1 else nI 0)
  else if hasB (r (31 + (s - 9))) (nI w) then (if kd = nI 3 then nI x + nI 1 else if kd = nI 2 then nI x * nI x else nI x) else nI 1
set_option maxHeartbeats 2000000 in
theorem e_fac0 {kd : Int32} {w s x y : Nat} (hB : RB W L A com len par lik fb hb pr r) (hw : w < W) (hs : s < 9 + L) (hx : x ≤ 5) (hy : y ≤ 4) : sX0_factor len par lik kd (nI s) (nI w) (nI (10 * x + y)) = some (fac r kd w s x y) := by
  obtain ⟨⟨b1, b2, b3⟩, -, -, -, hw', hl⟩ := hB
  obtain ⟨c1, c2, c3, -⟩ := hw' w hw
  unfold sX0_factor sX0_byKind sX0_lengthOf sX0_partsOf fac
  simp (disch := omega) only [v_b, v_l, v_i, v_g1, v_g, v_z0, v_z1, v_zif, nI_add, n_mul, n_sub, n_cl, n_le, n_lt, n_eq, n_eq0, n_le0, n_lt0, n_eqm, n_meq0, n_lem, z_add, v_t, v_f, Nat.reduceMul, Nat.reduceAdd, if_pos, if_neg, n_div, e_isIn]
  rw [show (10 * x + y) / 10 = x by omega, show 10 * x + y - x * 10 = y by omega, c2, c3]
  by_cases k1 : s < 6
  · simp (disch := omega) only [if_pos k1, v_b, v_l, v_i, v_g1, v_g, v_z0, v_z1, v_zif, nI_add, n_mul, n_sub, n_cl, n_le, n_lt, n_eq, n_eq0, n_le0, n_lt0, n_eqm, n_meq0, n_lem, z_add, v_t, v_f, Nat.reduceMul, Nat.reduceAdd, if_pos, if_neg]
    by_cases k2 : kd = nI 1
    · simp (disch := omega) only [if_pos k2, v_b, v_l, v_i, v_g1, v_g, v_z0, v_z1, v_zif, nI_add, n_mul, n_sub, n_cl, n_le, n_lt, n_eq, n_eq0, n_le0, n_lt0, n_eqm, n_meq0, n_lem, z_add, v_t, v_f, Nat.reduceMul, Nat.reduceAdd, if_pos, if_neg]
      by_cases k3 : hasB (r (23 + w)) (nI (s + 1 - (s + 1) / 6 * 6))
      · rw [if_pos k3, if_pos k3]
        by_cases k4 : kd = nI 2
        · simp (disch := omega) only [if_pos k4, v_b, v_l, v_i, v_g1, v_g, v_z0, v_z1, v_zif, nI_add, n_mul, n_sub, n_cl, n_le, n_lt, n_eq, n_eq0, n_le0, n_lt0, n_eqm, n_meq0, n_lem, z_add, v_t, v_f, Nat.reduceMul, Nat.reduceAdd, if_pos, if_neg]
        · simp (disch := omega) only [if_neg k4, v_b, v_l, v_i, v_g1, v_g, v_z0, v_z1, v_zif, nI_add, n_mul, n_sub, n_cl, n_le, n_lt, n_eq, n_eq0, n_le0, n_lt0, n_eqm, n_meq0, n_lem, z_add, v_t, v_f, Nat.reduceMul, Nat.reduceAdd, if_pos, if_neg]
      · rw [if_neg k3, if_neg k3]
    · simp (disch := omega) only [if_neg k2, v_b, v_l, v_i, v_g1, v_g, v_z0, v_z1, v_zif, nI_add, n_mul, n_sub, n_cl, n_le, n_lt, n_eq, n_eq0, n_le0, n_lt0, n_eqm, n_meq0, n_lem, z_add, v_t, v_f, Nat.reduceMul, Nat.reduceAdd, if_pos, if_neg]
      by_cases k3 : hasB (r (23 + w)) (nI s)
      · rw [if_pos k3, if_pos k3]
        by_cases k4 : kd = nI 2
        · simp (disch := omega) only [if_pos k4, v_b, v_l, v_i, v_g1, v_g, v_z0, v_z1, v_zif, nI_add, n_mul, n_sub, n_cl, n_le, n_lt, n_eq, n_eq0, n_le0, n_lt0, n_eqm, n_meq0, n_lem, z_add, v_t, v_f, Nat.reduceMul, Nat.reduceAdd, if_pos, if_neg]
        · simp (disch := omega) only [if_neg k4, v_b, v_l, v_i, v_g1, v_g, v_z0, v_z1, v_zif, nI_add, n_mul, n_sub, n_cl, n_le, n_lt, n_eq, n_eq0, n_le0, n_lt0, n_eqm, n_meq0, n_lem, z_add, v_t, v_f, Nat.reduceMul, Nat.reduceAdd, if_pos, if_neg]
      · rw [if_neg k3, if_neg k3]
  · simp (disch := omega) only [if_neg k1, v_b, v_l, v_i, v_g1, v_g, v_z0, v_z1, v_zif, nI_add, n_mul, n_sub, n_cl, n_le, n_lt, n_eq, n_eq0, n_le0, n_lt0, n_eqm, n_meq0, n_lem, z_add, v_t, v_f, Nat.reduceMul, Nat.reduceAdd, if_pos, if_neg]
    by_cases k2 : s < 9
    · simp (disch := omega) only [if_pos k2, v_b, v_l, v_i, v_g1, v_g, v_z0, v_z1, v_zif, nI_add, n_mul, n_sub, n_cl, n_le, n_lt, n_eq, n_eq0, n_le0, n_lt0, n_eqm, n_meq0, n_lem, z_add, v_t, v_f, Nat.reduceMul, Nat.reduceAdd, if_pos, if_neg]
      rw [show s - 6 + 1 = s - 5 by omega]
      by_cases k3 : r (15 + w) = nI (s - 5)
      · rw [if_pos k3, if_pos k3]
      · rw [if_neg k3, if_neg k3]
    · simp (disch := omega) only [if_neg k2, v_b, v_l, v_i, v_g1, v_g, v_z0, v_z1, v_zif, nI_add, n_mul, n_sub, n_cl, n_le, n_lt, n_eq, n_eq0, n_le0, n_lt0, n_eqm, n_meq0, n_lem, z_add, v_t, v_f, Nat.reduceMul, Nat.reduceAdd, if_pos, if_neg, hl, e_isIn]
      by_cases k3 : hasB (r (31 + (s - 9))) (nI w)
      · simp (disch := omega) only [if_pos k3, v_b, v_l, v_i, v_g1, v_g, v_z0, v_z1, v_zif, nI_add, n_mul, n_sub, n_cl, n_le, n_lt, n_eq, n_eq0, n_le0, n_lt0, n_eqm, n_meq0, n_lem, z_add, v_t, v_f, Nat.reduceMul, Nat.reduceAdd, if_pos, if_neg]
        by_cases k4 : kd = nI 3
        · simp (disch := omega) only [if_pos k4, v_b, v_l, v_i, v_g1, v_g, v_z0, v_z1, v_zif, nI_add, n_mul, n_sub, n_cl, n_le, n_lt, n_eq, n_eq0, n_le0, n_lt0, n_eqm, n_meq0, n_lem, z_add, v_t, v_f, Nat.reduceMul, Nat.reduceAdd, if_pos, if_neg]
        · simp (disch := omega) only [if_neg k4, v_b, v_l, v_i, v_g1, v_g, v_z0, v_z1, v_zif, nI_add, n_mul, n_sub, n_cl, n_le, n_lt, n_eq, n_eq0, n_le0, n_lt0, n_eqm, n_meq0, n_lem, z_add, v_t, v_f, Nat.reduceMul, Nat.reduceAdd, if_pos, if_neg]
          by_cases k5 : kd = nI 2
          · simp (disch := omega) only [if_pos k5, v_b, v_l, v_i, v_g1, v_g, v_z0, v_z1, v_zif, nI_add, n_mul, n_sub, n_cl, n_le, n_lt, n_eq, n_eq0, n_le0, n_lt0, n_eqm, n_meq0, n_lem, z_add, v_t, v_f, Nat.reduceMul, Nat.reduceAdd, if_pos, if_neg]
          · simp (disch := omega) only [if_neg k5, v_b, v_l, v_i, v_g1, v_g, v_z0, v_z1, v_zif, nI_add, n_mul, n_sub, n_cl, n_le, n_lt, n_eq, n_eq0, n_le0, n_lt0, n_eqm, n_meq0, n_lem, z_add, v_t, v_f, Nat.reduceMul, Nat.reduceAdd, if_pos, if_neg]
      · simp (disch := omega) only [if_neg k3, v_b, v_l, v_i, v_g1, v_g, v_z0, v_z1, v_zif, nI_add, n_mul, n_sub, n_cl, n_le, n_lt, n_eq, n_eq0, n_le0, n_lt0, n_eqm, n_meq0, n_lem, z_add, v_t, v_f, Nat.reduceMul, Nat.reduceAdd, if_pos, if_neg]
set_option maxHeartbeats 2000000 in
theorem e_fac9 {kd : Int32} {w s x y : Nat} (hw : w < 8) (hs : s < 15) : sX9_times r kd (nI w) (nI s) (nI x) (nI y) = some (fac r kd w s x y) := by
  unfold sX9_times sX9_byPart sX9_byLikeness fac
  simp (disch := omega) only [v_b, v_l, v_i, v_g1, v_g, v_z0, v_z1, v_zif, nI_add, n_mul, n_sub, n_cl, n_le, n_lt, n_eq, n_eq0, n_le0, n_lt0, n_eqm, n_meq0, n_lem, z_add, v_t, v_f, Nat.reduceMul, Nat.reduceAdd, if_pos, if_neg, n_div, e_has]
  by_cases k1 : s < 6
  · simp (disch := omega) only [if_pos k1, v_b, v_l, v_i, v_g1, v_g, v_z0, v_z1, v_zif, nI_add, n_mul, n_sub, n_cl, n_le, n_lt, n_eq, n_eq0, n_le0, n_lt0, n_eqm, n_meq0, n_lem, z_add, v_t, v_f, Nat.reduceMul, Nat.reduceAdd, if_pos, if_neg]
    by_cases k2 : kd = nI 1
    · simp (disch := omega) only [if_pos k2, v_b, v_l, v_i, v_g1, v_g, v_z0, v_z1, v_zif, nI_add, n_mul, n_sub, n_cl, n_le, n_lt, n_eq, n_eq0, n_le0, n_lt0, n_eqm, n_meq0, n_lem, z_add, v_t, v_f, Nat.reduceMul, Nat.reduceAdd, if_pos, if_neg]
      by_cases k3 : hasB (r (23 + w)) (nI (s + 1 - (s + 1) / 6 * 6))
      · simp (disch := omega) only [if_pos k3, v_b, v_l, v_i, v_g1, v_g, v_z0, v_z1, v_zif, nI_add, n_mul, n_sub, n_cl, n_le, n_lt, n_eq, n_eq0, n_le0, n_lt0, n_eqm, n_meq0, n_lem, z_add, v_t, v_f, Nat.reduceMul, Nat.reduceAdd, if_pos, if_neg]
        by_cases k4 : kd = nI 2
        · simp (disch := omega) only [if_pos k4, v_b, v_l, v_i, v_g1, v_g, v_z0, v_z1, v_zif, nI_add, n_mul, n_sub, n_cl, n_le, n_lt, n_eq, n_eq0, n_le0, n_lt0, n_eqm, n_meq0, n_lem, z_add, v_t, v_f, Nat.reduceMul, Nat.reduceAdd, if_pos, if_neg]
        · simp (disch := omega) only [if_neg k4, v_b, v_l, v_i, v_g1, v_g, v_z0, v_z1, v_zif, nI_add, n_mul, n_sub, n_cl, n_le, n_lt, n_eq, n_eq0, n_le0, n_lt0, n_eqm, n_meq0, n_lem, z_add, v_t, v_f, Nat.reduceMul, Nat.reduceAdd, if_pos, if_neg]
      · simp (disch := omega) only [if_neg k3, v_b, v_l, v_i, v_g1, v_g, v_z0, v_z1, v_zif, nI_add, n_mul, n_sub, n_cl, n_le, n_lt, n_eq, n_eq0, n_le0, n_lt0, n_eqm, n_meq0, n_lem, z_add, v_t, v_f, Nat.reduceMul, Nat.reduceAdd, if_pos, if_neg]
    · simp (disch := omega) only [if_neg k2, v_b, v_l, v_i, v_g1, v_g, v_z0, v_z1, v_zif, nI_add, n_mul, n_sub, n_cl, n_le, n_lt, n_eq, n_eq0, n_le0, n_lt0, n_eqm, n_meq0, n_lem, z_add, v_t, v_f, Nat.reduceMul, Nat.reduceAdd, if_pos, if_neg]
      by_cases k3 : hasB (r (23 + w)) (nI s)
      · simp (disch := omega) only [if_pos k3, v_b, v_l, v_i, v_g1, v_g, v_z0, v_z1, v_zif, nI_add, n_mul, n_sub, n_cl, n_le, n_lt, n_eq, n_eq0, n_le0, n_lt0, n_eqm, n_meq0, n_lem, z_add, v_t, v_f, Nat.reduceMul, Nat.reduceAdd, if_pos, if_neg]
        by_cases k4 : kd = nI 2
        · simp (disch := omega) only [if_pos k4, v_b, v_l, v_i, v_g1, v_g, v_z0, v_z1, v_zif, nI_add, n_mul, n_sub, n_cl, n_le, n_lt, n_eq, n_eq0, n_le0, n_lt0, n_eqm, n_meq0, n_lem, z_add, v_t, v_f, Nat.reduceMul, Nat.reduceAdd, if_pos, if_neg]
        · simp (disch := omega) only [if_neg k4, v_b, v_l, v_i, v_g1, v_g, v_z0, v_z1, v_zif, nI_add, n_mul, n_sub, n_cl, n_le, n_lt, n_eq, n_eq0, n_le0, n_lt0, n_eqm, n_meq0, n_lem, z_add, v_t, v_f, Nat.reduceMul, Nat.reduceAdd, if_pos, if_neg]
      · simp (disch := omega) only [if_neg k3, v_b, v_l, v_i, v_g1, v_g, v_z0, v_z1, v_zif, nI_add, n_mul, n_sub, n_cl, n_le, n_lt, n_eq, n_eq0, n_le0, n_lt0, n_eqm, n_meq0, n_lem, z_add, v_t, v_f, Nat.reduceMul, Nat.reduceAdd, if_pos, if_neg]
  · simp (disch := omega) only [if_neg k1, v_b, v_l, v_i, v_g1, v_g, v_z0, v_z1, v_zif, nI_add, n_mul, n_sub, n_cl, n_le, n_lt, n_eq, n_eq0, n_le0, n_lt0, n_eqm, n_meq0, n_lem, z_add, v_t, v_f, Nat.reduceMul, Nat.reduceAdd, if_pos, if_neg]
    by_cases k2 : s < 9
    · simp (disch := omega) only [if_pos k2, v_b, v_l, v_i, v_g1, v_g, v_z0, v_z1, v_zif, nI_add, n_mul, n_sub, n_cl, n_le, n_lt, n_eq, n_eq0, n_le0, n_lt0, n_eqm, n_meq0, n_lem, z_add, v_t, v_f, Nat.reduceMul, Nat.reduceAdd, if_pos, if_neg]
      by_cases k3 : r (15 + w) = nI (s - 5)
      · rw [if_pos k3, if_pos k3]
      · rw [if_neg k3, if_neg k3]
    · simp (disch := omega) only [if_neg k2, v_b, v_l, v_i, v_g1, v_g, v_z0, v_z1, v_zif, nI_add, n_mul, n_sub, n_cl, n_le, n_lt, n_eq, n_eq0, n_le0, n_lt0, n_eqm, n_meq0, n_lem, z_add, v_t, v_f, Nat.reduceMul, Nat.reduceAdd, if_pos, if_neg]
      by_cases k3 : hasB (r (31 + (s - 9))) (nI w)
      · simp (disch := omega) only [if_pos k3, v_b, v_l, v_i, v_g1, v_g, v_z0, v_z1, v_zif, nI_add, n_mul, n_sub, n_cl, n_le, n_lt, n_eq, n_eq0, n_le0, n_lt0, n_eqm, n_meq0, n_lem, z_add, v_t, v_f, Nat.reduceMul, Nat.reduceAdd, if_pos, if_neg]
        by_cases k4 : kd = nI 3
        · simp (disch := omega) only [if_pos k4, v_b, v_l, v_i, v_g1, v_g, v_z0, v_z1, v_zif, nI_add, n_mul, n_sub, n_cl, n_le, n_lt, n_eq, n_eq0, n_le0, n_lt0, n_eqm, n_meq0, n_lem, z_add, v_t, v_f, Nat.reduceMul, Nat.reduceAdd, if_pos, if_neg]
        · simp (disch := omega) only [if_neg k4, v_b, v_l, v_i, v_g1, v_g, v_z0, v_z1, v_zif, nI_add, n_mul, n_sub, n_cl, n_le, n_lt, n_eq, n_eq0, n_le0, n_lt0, n_eqm, n_meq0, n_lem, z_add, v_t, v_f, Nat.reduceMul, Nat.reduceAdd, if_pos, if_neg]
          by_cases k5 : kd = nI 2
          · simp (disch := omega) only [if_pos k5, v_b, v_l, v_i, v_g1, v_g, v_z0, v_z1, v_zif, nI_add, n_mul, n_sub, n_cl, n_le, n_lt, n_eq, n_eq0, n_le0, n_lt0, n_eqm, n_meq0, n_lem, z_add, v_t, v_f, Nat.reduceMul, Nat.reduceAdd, if_pos, if_neg]
          · simp (disch := omega) only [if_neg k5, v_b, v_l, v_i, v_g1, v_g, v_z0, v_z1, v_zif, nI_add, n_mul, n_sub, n_cl, n_le, n_lt, n_eq, n_eq0, n_le0, n_lt0, n_eqm, n_meq0, n_lem, z_add, v_t, v_f, Nat.reduceMul, Nat.reduceAdd, if_pos, if_neg]
      · simp (disch := omega) only [if_neg k3, v_b, v_l, v_i, v_g1, v_g, v_z0, v_z1, v_zif, nI_add, n_mul, n_sub, n_cl, n_le, n_lt, n_eq, n_eq0, n_le0, n_lt0, n_eqm, n_meq0, n_lem, z_add, v_t, v_f, Nat.reduceMul, Nat.reduceAdd, if_pos, if_neg]
theorem part_loop {x y u w : Nat} (hB : RB W L A com len par lik fb (nI (10 * x + y)) pr r) (hx : x ≤ 5) (hy : y ≤ 4) (h4 : r 4 = nI x) (h5 : r 5 = nI y) (hw : w < W) (hu : u < W) : ∀ (d f1 f2 s : Nat) (b : Int32), d = 9 + L - s → s ≤ 9 + L → d < f1 → d < f2 → ∃ z, LX8_parted_28 (nI w) (nI u) len par lik (nI L) (nI (10 * x + y)) f1 b (nI s) = some z ∧ LX9_parted_28 (nI w) (nI u) r f2 b (nI s) = some z := by
  have hB' := hB
  obtain ⟨⟨b1, b2, b3⟩, ⟨h0, h1, h2, h3, h6⟩, -⟩ := hB'
  intro d
  induction d with
  | zero =>
    intro f1 f2 s b q1 q2 q3 q4
    obtain ⟨g1, rfl⟩ : ∃ f, f1 = f + 1 := ⟨f1 - 1, by omega⟩
    obtain ⟨g2, rfl⟩ : ∃ f, f2 = f + 1 := ⟨f2 - 1, by omega⟩
    rw [LX8_parted_28, LX9_parted_28, sX0_signs, sX9_signs]
    simp (disch := omega) only [v_b, v_l, v_i, v_g1, v_g, v_z0, v_z1, v_zif, nI_add, n_mul, n_sub, n_cl, n_le, n_lt, n_eq, n_eq0, n_le0, n_lt0, n_eqm, n_meq0, n_lem, z_add, v_t, v_f, Nat.reduceMul, Nat.reduceAdd, if_pos, if_neg, h1]
    exact ⟨b, rfl, rfl⟩
  | succ d ih =>
    intro f1 f2 s b q1 q2 q3 q4
    obtain ⟨g1, rfl⟩ : ∃ f, f1 = f + 1 := ⟨f1 - 1, by omega⟩
    obtain ⟨g2, rfl⟩ : ∃ f, f2 = f + 1 := ⟨f2 - 1, by omega⟩
    rw [LX8_parted_28, LX9_parted_28, sX0_signs, sX9_signs, sX0_habit]
    simp only [v_b]
    rw [n_cl (by decide), n_cl (by decide), n_cl (by decide), h1, nI_add, vi_n (show ¬ nI (9 + L) ≤ nI s from by rw [n_le (by omega) (by omega)]; omega), vi_n (show ¬ nI (9 + L) ≤ nI s from by rw [n_le (by omega) (by omega)]; omega)]
    rw [e_fac0 hB hw (by omega) hx hy, e_fac0 hB hu (by omega) hx hy, h4, h5, e_fac9 (by omega) (by omega), e_fac9 (by omega) (by omega)]
    simp only [v_b]
    by_cases h : fac r (nI 0) w s x y = fac r (nI 0) u s x y
    · simp (disch := omega) only [if_pos h, v_i, v_l, nI_add, or_n0]
      exact ih g1 g2 (s + 1) _ (by omega) (by omega) (by omega) (by omega)
    · simp (disch := omega) only [if_neg h, v_i, v_l, nI_add]
      exact ih g1 g2 (s + 1) _ (by omega) (by omega) (by omega) (by omega)
theorem q_parted (hB : RB W L A com len par lik fb hb pr r) (x y : Int32) : ∃ z, sX8_parted len par lik (nI W) (nI L) hb x y = some z ∧ sX9_parted r x y = some z := by
  have hB' := hB
  obtain ⟨⟨b1, b2, b3⟩, ⟨h0, h1, h2, h3, h6⟩, ⟨p, q, p1, p2, q1, q2, h4, h5, hh⟩, -⟩ := hB'
  subst hh
  unfold sX8_parted sX9_parted
  rw [e_isWord3 b1, e_isWord3 b1, e_isWord9 b1 h0, e_isWord9 b1 h0, v_b, v_b, v_b, v_b]
  by_cases h : 0 ≤ x.toInt ∧ x.toInt < W
  · simp (disch := omega) only [if_pos h, v_b, v_l, v_i, v_g1, v_g, v_z0, v_z1, v_zif, nI_add, n_mul, n_sub, n_cl, n_le, n_lt, n_eq, n_eq0, n_le0, n_lt0, n_eqm, n_meq0, n_lem, z_add, v_t, v_f, Nat.reduceMul, Nat.reduceAdd, if_pos, if_neg]
    by_cases g : 0 ≤ y.toInt ∧ y.toInt < W
    · simp (disch := omega) only [if_pos g, v_b, v_l, v_i, v_g1, v_g, v_z0, v_z1, v_zif, nI_add, n_mul, n_sub, n_cl, n_le, n_lt, n_eq, n_eq0, n_le0, n_lt0, n_eqm, n_meq0, n_lem, z_add, v_t, v_f, Nat.reduceMul, Nat.reduceAdd, if_pos, if_neg]
      by_cases k : x = y
      · simp only [if_pos k]
        exact ⟨_, rfl, rfl⟩
      · simp only [if_neg k]
        obtain ⟨w, hw, rfl⟩ := n_ofN (N := W) h.1 h.2
        obtain ⟨u, hu, rfl⟩ := n_ofN (N := W) g.1 g.2
        exact part_loop hB p2 q2 h4 h5 hw hu (9 + L) vF vF 0 (nI 0) rfl (by omega) (by show 9 + L < 20000; omega) (by show 9 + L < 20000; omega)
    · simp (disch := omega) only [if_neg g, v_b, v_l, v_i, v_g1, v_g, v_z0, v_z1, v_zif, nI_add, n_mul, n_sub, n_cl, n_le, n_lt, n_eq, n_eq0, n_le0, n_lt0, n_eqm, n_meq0, n_lem, z_add, v_t, v_f, Nat.reduceMul, Nat.reduceAdd, if_pos, if_neg]
      exact ⟨_, rfl, rfl⟩
  · simp (disch := omega) only [if_neg h, v_b, v_l, v_i, v_g1, v_g, v_z0, v_z1, v_zif, nI_add, n_mul, n_sub, n_cl, n_le, n_lt, n_eq, n_eq0, n_le0, n_lt0, n_eqm, n_meq0, n_lem, z_add, v_t, v_f, Nat.reduceMul, Nat.reduceAdd, if_pos, if_neg]
    exact ⟨_, rfl, rfl⟩
end BOARD

/-! values: the words of the specs, evaluated -/
theorem v_b {α β : Type} (x : α) (f : α → Option β) : vb (some x) f = f x := rfl
theorem v_l {α β : Type} (x : α) (f : α → Option β) : vlet x f = f x := rfl
theorem v_i {β : Type} (c : Prop) (ic : Decidable c) (x y : Option β) : vi c ic x y = @ite _ c ic x y := rfl
theorem vi_p {β : Type} {c : Prop} {ic : Decidable c} {x y : Option β} (h : c) : vi c ic x y = x := if_pos h
theorem vi_n {β : Type} {c : Prop} {ic : Decidable c} {x y : Option β} (h : ¬ c) : vi c ic x y = y := if_neg h
theorem v_t {α : Type} {ic : Decidable True} (x y : α) : @ite _ True ic x y = x := if_pos trivial
theorem v_f {α : Type} {ic : Decidable False} (x y : α) : @ite _ False ic x y = y := if_neg id
theorem v_g1 {β : Type} (x : Option β) : vg true x = x := rfl
theorem v_g {β : Type} {n k : Nat} {x : Option β} (h : k < n) (hk : k < 2147483648) : vg (vin (nI k) n) x = x := by
  rw [show vin (nI k) n = true from vin_of (by rw [i_nI _ hk]; omega) (by rw [i_nI _ hk]; omega)]
  rfl
theorem v_z0 : vz (nI 0) = true := by decide
theorem v_z1 : vz (nI 1) = true := by decide
theorem v_zif {c : Prop} {ic : Decidable c} : vz (@ite _ c ic (nI 1) (nI 0)) = true := by
  by_cases h : c
  · rw [if_pos h]; exact v_z1
  · rw [if_neg h]; exact v_z0
theorem n_cl {k : Nat} (h : k < 2147483648) : Int32.toNatClampNeg (nI k) = k := nI_clamp h
theorem n_mul (a b : Nat) : nI a * nI b = nI (a * b) := (Int32.ofNat_mul a b).symm
theorem n_sub {a b : Nat} (h : b ≤ a) : nI a - nI b = nI (a - b) := (Int32.ofNat_sub a b h).symm
theorem z_add (x : Int32) : nI 0 + x = x := by rw [nI_0, Int32.zero_add]
theorem or_n0 (b : Int32) : b ||| nI 0 = b := by rw [nI_0, Int32.or_zero]
theorem n_le {a b : Nat} (ha : a < 2147483648) (hb : b < 2147483648) : (nI a ≤ nI b) = (a ≤ b) := propext (nI_leI ha hb)
theorem n_lt {a b : Nat} (ha : a < 2147483648) (hb : b < 2147483648) : (nI a < nI b) = (a < b) := propext (nI_ltI ha hb)
theorem n_eq {a b : Nat} (ha : a < 2147483648) (hb : b < 2147483648) : (nI a = nI b) = (a = b) := propext (nI_eq ha hb)
theorem n_eq0 {a : Nat} (ha : a < 2147483648) : (nI a = 0) = (a = 0) := by
  rw [← nI_0, n_eq ha (by decide)]
theorem n_le0 {a : Nat} (ha : a < 2147483648) : (nI a ≤ 0) = (a = 0) := by
  rw [← nI_0, n_le ha (by decide)]
  exact propext ⟨fun h => by omega, fun h => by omega⟩
theorem n_lt0 {a : Nat} (ha : a < 2147483648) : (nI a < 0) = False := eq_false (nI_pos ha)
theorem n_eqm {a : Nat} (ha : a < 2147483648) : (nI a = -4) = False := eq_false (by
  intro h
  have := congrArg Int32.toInt h
  rw [i_nI _ ha, i_m4] at this
  omega)
theorem n_meq0 : ((-4 : Int32) = 0) = False := by decide
theorem n_lem : ((-4 : Int32) ≤ 0) = True := by decide
/-- what stands at a place of a row that a value was put into -/
theorem u_at (f : Nat → Int32) (k : Nat) (x : Int32) (j : Nat) : upd f k x j = if j = k then x else f j := rfl
theorem u_eq {f : Nat → Int32} {k : Nat} {x : Int32} {j : Nat} (h : j = k) : upd f k x j = x := by rw [u_at, if_pos h]
theorem u_ne {f : Nat → Int32} {k : Nat} {x : Int32} {j : Nat} (h : ¬ j = k) : upd f k x j = f j := by rw [u_at, if_neg h]
/-- a number that is not below 0 and small -/
theorem n_of {x : Int32} (h : 0 ≤ x.toInt) : x = nI x.toInt.toNat := by
  have := i_hi x
  rw [i_eq, i_nI _ (by omega)]
  omega
theorem n_ofN {x : Int32} {N : Nat} (h : 0 ≤ x.toInt) (h2 : x.toInt < N) : ∃ k, k < N ∧ x = nI k := ⟨x.toInt.toNat, by omega, n_of h⟩
/-! cells -/
theorem e_cell {f : Nat → Int32} {a j : Nat} (h : a * 11 + j < 55) : sX4_cell f (nI a) (nI j) = some (f (a * 11 + j)) := by
  unfold sX4_cell
  simp (disch := omega) only [v_b, v_l, v_i, v_g1, v_g, v_z0, v_z1, v_zif, nI_add, n_mul, n_sub, n_cl, n_le, n_lt, n_eq, n_eq0, n_le0, n_lt0, n_eqm, n_meq0, n_lem, z_add, v_t, v_f, Nat.reduceMul, Nat.reduceAdd, if_pos, if_neg]
theorem e_sign {f : Nat → Int32} {a j : Nat} (h : a * 11 + 6 + j < 55) : sX4_sign f (nI a) (nI j) = some (f (a * 11 + (6 + j))) := by
  unfold sX4_sign
  simp (disch := omega) only [v_b, v_l, v_i, v_g1, v_g, v_z0, v_z1, v_zif, nI_add, n_mul, n_sub, n_cl, n_le, n_lt, n_eq, n_eq0, n_le0, n_lt0, n_eqm, n_meq0, n_lem, z_add, v_t, v_f, Nat.reduceMul, Nat.reduceAdd, if_pos, if_neg, e_cell]
theorem e_set {f : Nat → Int32} {a j : Nat} {x : Int32} (h : a * 11 + j < 55) : sX4_set f (nI a) (nI j) x = some (upd f (a * 11 + j) x) := by
  unfold sX4_set
  simp (disch := omega) only [v_b, v_l, v_i, v_g1, v_g, v_z0, v_z1, v_zif, nI_add, n_mul, n_sub, n_cl, n_le, n_lt, n_eq, n_eq0, n_le0, n_lt0, n_eqm, n_meq0, n_lem, z_add, v_t, v_f, Nat.reduceMul, Nat.reduceAdd, if_pos, if_neg]
/-! letters -/
def ch (t : Nat → Int32) (n a : Nat) : Int32 := if a < n then t a else 0
theorem ch_in {t : Nat → Int32} {n a : Nat} (h : a < n) : ch t n a = t a := if_pos h
theorem ch_out {t : Nat → Int32} {n a : Nat} (h : ¬ a < n) : ch t n a = 0 := if_neg h
theorem ch_eq {t u : Nat → Int32} {n : Nat} (h : ∀ i, i < n → t i = u i) : ch t n = ch u n := by
  funext a
  unfold ch
  by_cases q : a < n
  · rw [if_pos q, if_pos q, h a q]
  · rw [if_neg q, if_neg q]
abbrev fig (x : Int32) : Prop := 48 ≤ x.toInt ∧ x.toInt ≤ 57
theorem e_peek {t : Nat → Int32} {n a N : Nat} (hn : n ≤ N) (hN : N < 2147483648) (ha : a < 2147483648) : sX3_peek N t (nI n) (nI a) = some (ch t n a) := by
  unfold sX3_peek ch
  by_cases h : a < n
  · simp (disch := omega) only [v_b, v_l, v_i, v_g1, v_g, v_z0, v_z1, v_zif, nI_add, n_mul, n_sub, n_cl, n_le, n_lt, n_eq, n_eq0, n_le0, n_lt0, n_eqm, n_meq0, n_lem, z_add, v_t, v_f, Nat.reduceMul, Nat.reduceAdd, if_pos, if_neg]
  · simp (disch := omega) only [v_b, v_l, v_i, v_g1, v_g, v_z0, v_z1, v_zif, nI_add, n_mul, n_sub, n_cl, n_le, n_lt, n_eq, n_eq0, n_le0, n_lt0, n_eqm, n_meq0, n_lem, z_add, v_t, v_f, Nat.reduceMul, Nat.reduceAdd, if_pos, if_neg]
    exact congrArg some nI_0
def he (t : Nat → Int32) (n a : Nat) : Int32 := if a < n then t a else -1
theorem he_in {t : Nat → Int32} {n a : Nat} (h : a < n) : he t n a = t a := if_pos h
theorem he_out {t : Nat → Int32} {n a : Nat} (h : ¬ a < n) : he t n a = -1 := if_neg h
theorem e_here {t : Nat → Int32} {n a : Nat} (hn : n ≤ 200) (ha : a < 2147483648) : sX9_here t (nI n) (nI a) = some (he t n a) := by
  unfold sX9_here he
  by_cases h : a < n
  · simp (disch := omega) only [v_b, v_l, v_i, v_g1, v_g, v_z0, v_z1, v_zif, nI_add, n_mul, n_sub, n_cl, n_le, n_lt, n_eq, n_eq0, n_le0, n_lt0, n_eqm, n_meq0, n_lem, z_add, v_t, v_f, Nat.reduceMul, Nat.reduceAdd, if_pos, if_neg]
  · simp (disch := omega) only [v_b, v_l, v_i, v_g1, v_g, v_z0, v_z1, v_zif, nI_add, n_mul, n_sub, n_cl, n_le, n_lt, n_eq, n_eq0, n_le0, n_lt0, n_eqm, n_meq0, n_lem, z_add, v_t, v_f, Nat.reduceMul, Nat.reduceAdd, if_pos, if_neg]
theorem he_ch {t : Nat → Int32} {n a : Nat} {x : Int32} (h : 0 < x.toInt) : (he t n a = x) = (ch t n a = x) := by
  unfold he ch
  by_cases q : a < n
  · rw [if_pos q, if_pos q]
  · rw [if_neg q, if_neg q]
    refine propext ⟨fun e => ?_, fun e => ?_⟩
    · rw [← e, i_m1] at h; omega
    · rw [← e, i_0] at h; omega
theorem he_rng {t : Nat → Int32} {n a : Nat} {lo hi : Int} (h : 0 < lo) : (lo ≤ (he t n a).toInt ∧ (he t n a).toInt ≤ hi) = (lo ≤ (ch t n a).toInt ∧ (ch t n a).toInt ≤ hi) := by
  unfold he ch
  by_cases q : a < n
  · rw [if_pos q, if_pos q]
  · rw [if_neg q, if_neg q, i_m1, i_0]
    exact propext ⟨fun e => by omega, fun e => by omega⟩
theorem he_eq {t : Nat → Int32} {n a : Nat} {lo : Int} (h : 0 < lo) (q : lo ≤ (ch t n a).toInt) : he t n a = ch t n a := by
  unfold ch at q
  unfold he ch
  by_cases p : a < n
  · rw [if_pos p, if_pos p]
  · rw [if_neg p, i_0] at q; omega
theorem he_fig (t : Nat → Int32) (n a : Nat) : fig (he t n a) = fig (ch t n a) := he_rng (by decide)
theorem e_fig3 (x : Int32) : sX3_isFigure x = some (if fig x then nI 1 else nI 0) := by
  unfold sX3_isFigure
  simp only [v_i, i_lt, show (nI 48).toInt = 48 from by decide, show (nI 57).toInt = 57 from by decide]
  by_cases h : x.toInt < 48
  · rw [if_pos h, if_neg (by omega)]
  · rw [if_neg h]
    by_cases g : 57 < x.toInt
    · rw [if_pos g, if_neg (by omega)]
    · rw [if_neg g, if_pos (by omega)]
theorem e_in (x lo hi : Int32) : sX9_in x.toInt64 lo.toInt64 hi.toInt64 = some (if lo.toInt ≤ x.toInt ∧ x.toInt ≤ hi.toInt then nI 1 else nI 0) := by
  unfold sX9_in
  simp only [v_i, lg_cmp_lt, lg_cmp_gt, l_lt, i_l64]
  by_cases h : x.toInt < lo.toInt
  · rw [if_pos h, if_neg (by omega)]
  · rw [if_neg h]
    by_cases g : hi.toInt < x.toInt
    · rw [if_pos g, if_neg (by omega)]
    · rw [if_neg g, if_pos (by omega)]
theorem e_inN (x : Int32) {a b : Nat} (ha : a < 2147483648) (hb : b < 2147483648) : sX9_in x.toInt64 (lN a) (lN b) = some (if (a : Int) ≤ x.toInt ∧ x.toInt ≤ (b : Int) then nI 1 else nI 0) := by
  rw [← nI_l (show a < 2 ^ 31 by omega), ← nI_l (show b < 2 ^ 31 by omega), e_in, i_nI _ ha, i_nI _ hb]
theorem e_in0 (x hi : Int32) : sX9_in x.toInt64 (lN 0) hi.toInt64 = some (if 0 ≤ x.toInt ∧ x.toInt ≤ hi.toInt then nI 1 else nI 0) := by
  rw [← nI_l (show 0 < 2 ^ 31 by omega), e_in, i_nI 0 (by decide)]
  rfl
theorem e_fig9 (x : Int32) : sX9_isFigure x = some (if fig x then nI 1 else nI 0) := by
  unfold sX9_isFigure
  rw [e_inN x (by decide) (by decide)]
  simp only [v_b, v_l, v_i, v_g1, v_g, v_z0, v_z1, v_zif, nI_add, n_mul, n_sub, n_cl, n_le, n_lt, n_eq, n_eq0, n_le0, n_lt0, n_eqm, n_meq0, n_lem, z_add, v_t, v_f, Nat.reduceMul, Nat.reduceAdd, if_pos, if_neg]
  rfl
theorem e_has (x y : Int32) : sX9_has x y = some (if ((x >>> (y &&& 31)) &&& nI 1) = nI 1 then nI 1 else nI 0) := by
  unfold sX9_has
  rw [v_i]
  by_cases h : ((x >>> (y &&& 31)) &&& nI 1) = nI 1
  · rw [if_pos h, if_pos h]
  · rw [if_neg h, if_neg h]
/-- a number in the text: where it ends; what it is; whether it may stand -/
def numA (c : Nat → Int32) (a : Nat) : Nat := if fig (c a) then (if fig (c (a + 1)) then a + 2 else a + 1) else a
def numV (c : Nat → Int32) (a : Nat) : Int32 := if fig (c (a + 1)) then (nI 10 * (c a - nI 48) + c (a + 1)) - nI 48 else c a - nI 48
abbrev numOK (c : Nat → Int32) (a : Nat) (lo hi : Int32) : Prop := fig (c a) ∧ lo.toInt ≤ (numV c a).toInt ∧ (numV c a).toInt ≤ hi.toInt
theorem numA_le (c : Nat → Int32) (a : Nat) : a ≤ numA c a ∧ numA c a ≤ a + 2 := by
  unfold numA
  split
  · split <;> omega
  · omega
theorem fig_ch {t : Nat → Int32} {n a : Nat} (h : fig (ch t n a)) : a < n := by
  by_cases q : a < n
  · exact q
  · rw [ch_out q] at h
    have := h.1
    rw [i_0] at this
    omega
set_option maxHeartbeats 2000000 in
theorem e_num3 {t : Nat → Int32} {n a N : Nat} (lo hi : Int32) (hn : n ≤ N) (hN : N < 2147483000) (ha : a < 2147483000) : sX3_number N t (nI n) (nI a) lo hi = some (if numOK (ch t n) a lo hi then numV (ch t n) a else -4, nI (numA (ch t n) a)) := by
  unfold sX3_number numA
  rw [show vF = 19997 + 1 + 1 + 1 from rfl, LX3_number_5]
  simp (disch := omega) only [v_b, v_l, v_i, v_g1, v_g, v_z0, v_z1, v_zif, nI_add, n_mul, n_sub, n_cl, n_le, n_lt, n_eq, n_eq0, n_le0, n_lt0, n_eqm, n_meq0, n_lem, z_add, v_t, v_f, Nat.reduceMul, Nat.reduceAdd, if_pos, if_neg, e_peek, e_fig3]
  by_cases h : fig (ch t n a)
  · simp (disch := omega) only [if_pos h, v_b, v_l, v_i, v_g1, v_g, v_z0, v_z1, v_zif, nI_add, n_mul, n_sub, n_cl, n_le, n_lt, n_eq, n_eq0, n_le0, n_lt0, n_eqm, n_meq0, n_lem, z_add, v_t, v_f, Nat.reduceMul, Nat.reduceAdd, if_pos, if_neg]
    rw [LX3_number_5]
    simp (disch := omega) only [v_b, v_l, v_i, v_g1, v_g, v_z0, v_z1, v_zif, nI_add, n_mul, n_sub, n_cl, n_le, n_lt, n_eq, n_eq0, n_le0, n_lt0, n_eqm, n_meq0, n_lem, z_add, v_t, v_f, Nat.reduceMul, Nat.reduceAdd, if_pos, if_neg, e_peek, e_fig3]
    by_cases g : fig (ch t n (a + 1))
    · simp (disch := omega) only [if_pos g, v_b, v_l, v_i, v_g1, v_g, v_z0, v_z1, v_zif, nI_add, n_mul, n_sub, n_cl, n_le, n_lt, n_eq, n_eq0, n_le0, n_lt0, n_eqm, n_meq0, n_lem, z_add, v_t, v_f, Nat.reduceMul, Nat.reduceAdd, if_pos, if_neg]
      rw [LX3_number_5]
      simp (disch := omega) only [v_b, v_l, v_i, v_g1, v_g, v_z0, v_z1, v_zif, nI_add, n_mul, n_sub, n_cl, n_le, n_lt, n_eq, n_eq0, n_le0, n_lt0, n_eqm, n_meq0, n_lem, z_add, v_t, v_f, Nat.reduceMul, Nat.reduceAdd, if_pos, if_neg, i_lt]
      have hv : numV (ch t n) a = (nI 10 * (ch t n a - nI 48) + ch t n (a + 1)) - nI 48 := if_pos g
      rw [← hv]
      by_cases p : (numV (ch t n) a).toInt < lo.toInt
      · rw [if_pos p, if_neg (by omega)]
      · rw [if_neg p]
        by_cases q : hi.toInt < (numV (ch t n) a).toInt
        · rw [if_pos q, if_neg (by omega)]
        · rw [if_neg q, if_pos (by omega)]
    · simp (disch := omega) only [if_neg g, v_b, v_l, v_i, v_g1, v_g, v_z0, v_z1, v_zif, nI_add, n_mul, n_sub, n_cl, n_le, n_lt, n_eq, n_eq0, n_le0, n_lt0, n_eqm, n_meq0, n_lem, z_add, v_t, v_f, Nat.reduceMul, Nat.reduceAdd, if_pos, if_neg, i_lt]
      have hv : numV (ch t n) a = ch t n a - nI 48 := if_neg g
      rw [← hv]
      by_cases p : (numV (ch t n) a).toInt < lo.toInt
      · rw [if_pos p, if_neg (by omega)]
      · rw [if_neg p]
        by_cases q : hi.toInt < (numV (ch t n) a).toInt
        · rw [if_pos q, if_neg (by omega)]
        · rw [if_neg q, if_pos (by omega)]
  · have h2 : ¬ numOK (ch t n) a lo hi := fun q => h q.1
    simp (disch := omega) only [if_neg h, if_neg h2, v_b, v_l, v_i, v_g1, v_g, v_z0, v_z1, v_zif, nI_add, n_mul, n_sub, n_cl, n_le, n_lt, n_eq, n_eq0, n_le0, n_lt0, n_eqm, n_meq0, n_lem, z_add, v_t, v_f, Nat.reduceMul, Nat.reduceAdd, if_pos, if_neg]
set_option maxHeartbeats 2000000 in
theorem e_num9 {t : Nat → Int32} {n a : Nat} (v lo hi : Int32) (hn : n ≤ 200) (ha : a < 2147483000) : sX9_number t (nI n) (nI a) v lo hi = some (if numOK (ch t n) a lo hi then nI 1 else nI 0, nI (numA (ch t n) a), if fig (ch t n a) then numV (ch t n) a else v) := by
  unfold sX9_number numA
  simp (disch := omega) only [v_b, v_l, v_i, v_g1, v_g, v_z0, v_z1, v_zif, nI_add, n_mul, n_sub, n_cl, n_le, n_lt, n_eq, n_eq0, n_le0, n_lt0, n_eqm, n_meq0, n_lem, z_add, v_t, v_f, Nat.reduceMul, Nat.reduceAdd, if_pos, if_neg, e_here, e_fig9, he_fig]
  by_cases h : fig (ch t n a)
  · rw [he_eq (lo := 48) (by decide) h.1]
    simp (disch := omega) only [if_pos h, v_b, v_l, v_i, v_g1, v_g, v_z0, v_z1, v_zif, nI_add, n_mul, n_sub, n_cl, n_le, n_lt, n_eq, n_eq0, n_le0, n_lt0, n_eqm, n_meq0, n_lem, z_add, v_t, v_f, Nat.reduceMul, Nat.reduceAdd, if_pos, if_neg, e_in]
    by_cases g : fig (ch t n (a + 1))
    · rw [he_eq (lo := 48) (by decide) g.1]
      simp (disch := omega) only [if_pos g, v_b, v_l, v_i, v_g1, v_g, v_z0, v_z1, v_zif, nI_add, n_mul, n_sub, n_cl, n_le, n_lt, n_eq, n_eq0, n_le0, n_lt0, n_eqm, n_meq0, n_lem, z_add, v_t, v_f, Nat.reduceMul, Nat.reduceAdd, if_pos, if_neg]
      have hv : numV (ch t n) a = (nI 10 * (ch t n a - nI 48) + ch t n (a + 1)) - nI 48 := if_pos g
      rw [← hv]
      by_cases p : lo.toInt ≤ (numV (ch t n) a).toInt ∧ (numV (ch t n) a).toInt ≤ hi.toInt
      · rw [if_pos p, if_pos ⟨h, p⟩]
      · rw [if_neg p, if_neg (fun q => p q.2)]
    · simp (disch := omega) only [if_neg g, v_b, v_l, v_i, v_g1, v_g, v_z0, v_z1, v_zif, nI_add, n_mul, n_sub, n_cl, n_le, n_lt, n_eq, n_eq0, n_le0, n_lt0, n_eqm, n_meq0, n_lem, z_add, v_t, v_f, Nat.reduceMul, Nat.reduceAdd, if_pos, if_neg]
      have hv : numV (ch t n) a = ch t n a - nI 48 := if_neg g
      rw [← hv]
      by_cases p : lo.toInt ≤ (numV (ch t n) a).toInt ∧ (numV (ch t n) a).toInt ≤ hi.toInt
      · rw [if_pos p, if_pos ⟨h, p⟩]
      · rw [if_neg p, if_neg (fun q => p q.2)]
  · have h2 : ¬ numOK (ch t n) a lo hi := fun q => h q.1
    simp (disch := omega) only [if_neg h, if_neg h2, v_b, v_l, v_i, v_g1, v_g, v_z0, v_z1, v_zif, nI_add, n_mul, n_sub, n_cl, n_le, n_lt, n_eq, n_eq0, n_le0, n_lt0, n_eqm, n_meq0, n_lem, z_add, v_t, v_f, Nat.reduceMul, Nat.reduceAdd, if_pos, if_neg]
theorem e_pass {t : Nat → Int32} {n a N : Nat} (x : Int32) (hn : n ≤ N) (hN : N < 2147483000) (ha : a < 2147483000) : sX3_passes N t (nI n) (nI a) x = some (if ch t n a = x then nI 1 else nI 0, nI (if ch t n a = x then a + 1 else a)) := by
  unfold sX3_passes
  simp (disch := omega) only [v_b, v_l, v_i, v_g1, v_g, v_z0, v_z1, v_zif, nI_add, n_mul, n_sub, n_cl, n_le, n_lt, n_eq, n_eq0, n_le0, n_lt0, n_eqm, n_meq0, n_lem, z_add, v_t, v_f, Nat.reduceMul, Nat.reduceAdd, if_pos, if_neg, e_peek]
  by_cases h : ch t n a = x
  · simp only [if_pos h]
  · simp only [if_neg h]
theorem e_take {t : Nat → Int32} {n a : Nat} {x : Int32} (hx : 0 < x.toInt) (hn : n ≤ 200) (ha : a < 2147483000) : sX9_takes t (nI n) (nI a) x = some (if ch t n a = x then nI 1 else nI 0, nI (if ch t n a = x then a + 1 else a)) := by
  unfold sX9_takes
  simp (disch := omega) only [v_b, v_l, v_i, v_g1, v_g, v_z0, v_z1, v_zif, nI_add, n_mul, n_sub, n_cl, n_le, n_lt, n_eq, n_eq0, n_le0, n_lt0, n_eqm, n_meq0, n_lem, z_add, v_t, v_f, Nat.reduceMul, Nat.reduceAdd, if_pos, if_neg, e_here, he_ch hx]
  by_cases h : ch t n a = x
  · simp only [if_pos h]
  · simp only [if_neg h]
    rfl
theorem fig59 {x : Int32} (h : fig x) (e : x = nI 59) : False := by
  have h2 := h.2
  rw [e, i_nI _ (by decide)] at h2
  omega

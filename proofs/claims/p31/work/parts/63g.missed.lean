/-! values: signs missed -/
theorem gcd_st (a b : Nat) : Nat.gcd a b = Nat.gcd b (a % b) := by
  rw [Nat.gcd_comm a b, Nat.gcd_rec b a, Nat.gcd_comm]
theorem half_mod {b r k : Nat} (hr : 0 < r) (hrb : r < b) (hb : b < 2 ^ (k + 1)) : b % r < 2 ^ k := by
  have h1 := Nat.mod_lt b hr
  have h2 : b % r ≤ b - r := by
    rw [Nat.mod_eq_sub_mod (Nat.le_of_lt hrb)]
    exact Nat.mod_le _ _
  rw [Nat.pow_succ] at hb
  omega
theorem gcd_i : ∀ (k fuel s a b : Nat), a < 2147483648 → b < 2 ^ k → k ≤ 30 → 2 * k + 1 ≤ fuel → s + 2 * k < 64 → LX8_commonDivisor_7 fuel (nI a) (nI b) (nI s) = some (nI (Nat.gcd a b)) := by
  intro k
  induction k with
  | zero =>
    intro fuel s a b ha hb hk hf hs
    obtain ⟨f, rfl⟩ : ∃ f, fuel = f + 1 := ⟨fuel - 1, by omega⟩
    obtain rfl : b = 0 := by omega
    rw [LX8_commonDivisor_7, vi_n (show ¬ nI 64 ≤ nI s from by rw [n_le (by omega) (by omega)]; omega), vi_p nI_0, Nat.gcd_zero_right]
  | succ k ih =>
    intro fuel s a b ha hb hk hf hs
    have hp : 2 ^ (k + 1) ≤ 2 ^ 30 := Nat.pow_le_pow_right (by omega) hk
    obtain ⟨f, rfl⟩ : ∃ f, fuel = f + 1 + 1 := ⟨fuel - 2, by omega⟩
    rw [LX8_commonDivisor_7, vi_n (show ¬ nI 64 ≤ nI s from by rw [n_le (by omega) (by omega)]; omega)]
    by_cases q : b = 0
    · subst q
      rw [vi_p nI_0, Nat.gcd_zero_right]
    · have hm := Nat.mod_lt a (show b > 0 by omega)
      rw [vi_n (show ¬ nI b = 0 from by rw [n_eq0 (by omega)]; exact q), show decide (¬ nI b = 0) = true from decide_eq_true (by rw [n_eq0 (by omega)]; exact q), v_g1, v_l, v_l, n_mod (by omega) (by omega), nI_add, LX8_commonDivisor_7, vi_n (show ¬ nI 64 ≤ nI (s + 1) from by rw [n_le (by omega) (by omega)]; omega), gcd_st a b]
      by_cases q2 : a % b = 0
      · rw [q2, vi_p nI_0, Nat.gcd_zero_right]
      · rw [vi_n (show ¬ nI (a % b) = 0 from by rw [n_eq0 (by omega)]; exact q2), show decide (¬ nI (a % b) = 0) = true from decide_eq_true (by rw [n_eq0 (by omega)]; exact q2), v_g1, v_l, v_l, n_mod (by omega) (by omega), nI_add, gcd_st b (a % b)]
        exact ih f (s + 1 + 1) (a % b) (b % (a % b)) (by omega) (half_mod (by omega) hm hb) (by omega) (by omega) (by omega)
theorem l0 {a : Nat} (ha : a < 2147483648) : (lN a = 0) = (a = 0) := by
  rw [show (0 : Int64) = lN 0 from rfl]
  exact propext (lN_eq (by omega) (by omega))
theorem l_cmp0 {a : Nat} (ha : a < 2147483648) : ((lg_cmp (lN a) (lN 0)) = 0) = (a = 0) := by
  rw [show (lg_cmp (lN a) (lN 0) = 0) = (lN a = lN 0) from propext (lg_cmp_eq _ _)]
  exact propext (lN_eq (by omega) (by omega))
theorem l_mod {a b : Nat} (ha : a < 2147483648) (hb : b < 2147483648) : lN a - lN a / lN b * lN b = lN (a % b) := by
  rw [l_div (by omega) (by omega), lN_mul, lN_sub (Nat.div_mul_le_self a b)]
  congr 1
  have := Nat.div_add_mod a b
  rw [Nat.mul_comm] at this
  omega
theorem gcd_l {x y : Nat} (hx : x < 2147483648) (hy : y < 2147483648) : ∀ (k fuel a b : Nat), a < 2147483648 → 0 < Nat.gcd a b → b < 2 ^ k → k ≤ 30 → 2 * k + 1 ≤ fuel → LX9_lowest_6 (lN x) (lN y) fuel (lN a) (lN b) = some (lN (x / Nat.gcd a b), lN (y / Nat.gcd a b)) := by
  have fin : ∀ a f : Nat, 0 < a → a < 2147483648 → LX9_lowest_6 (lN x) (lN y) (f + 1) (lN a) (lN 0) = some (lN (x / a), lN (y / a)) := by
    intro a f ha ha2
    have e : decide (¬ lN a = 0) = true := decide_eq_true (by rw [l0 ha2]; omega)
    rw [LX9_lowest_6, vi_p (by rw [l_cmp0 (by omega)]), e, v_g1, v_l, v_g1, v_l, l_div (by omega) (by omega), l_div (by omega) (by omega)]
  intro k
  induction k with
  | zero =>
    intro fuel a b ha hg hb hk hf
    obtain ⟨f, rfl⟩ : ∃ f, fuel = f + 1 := ⟨fuel - 1, by omega⟩
    obtain rfl : b = 0 := by omega
    rw [Nat.gcd_zero_right] at hg ⊢
    exact fin a f hg ha
  | succ k ih =>
    intro fuel a b ha hg hb hk hf
    have hp : 2 ^ (k + 1) ≤ 2 ^ 30 := Nat.pow_le_pow_right (by omega) hk
    obtain ⟨f, rfl⟩ : ∃ f, fuel = f + 1 + 1 := ⟨fuel - 2, by omega⟩
    by_cases q : b = 0
    · subst q
      rw [Nat.gcd_zero_right] at hg ⊢
      exact fin a (f + 1) hg ha
    · have hm := Nat.mod_lt a (show b > 0 by omega)
      rw [LX9_lowest_6, vi_n (by rw [l_cmp0 (by omega)]; exact q), show decide (¬ lN b = 0) = true from decide_eq_true (by rw [l0 (by omega)]; exact q), v_g1, v_l, l_mod (by omega) (by omega)]
      rw [gcd_st a b] at hg ⊢
      by_cases q2 : a % b = 0
      · rw [q2, Nat.gcd_zero_right] at hg ⊢
        exact fin b f hg (by omega)
      · rw [LX9_lowest_6, vi_n (by rw [l_cmp0 (by omega)]; exact q2), show decide (¬ lN (a % b) = 0) = true from decide_eq_true (by rw [l0 (by omega)]; exact q2), v_g1, v_l, l_mod (by omega) (by omega)]
        rw [gcd_st b (a % b)] at hg ⊢
        exact ih f (a % b) (b % (a % b)) (by omega) hg (half_mod (by omega) hm hb) (by omega) (by omega)
/-- the chance of what is taken in -/
def chF (T : Int32) (x : Nat) : Nat → Nat → Nat → Nat
  | 0, _, v => v
  | d + 1, k, v => chF T x d (k + 1) (v * (if hasB T (nI k) then 10 - x else x))
theorem chF_le (T : Int32) {x : Nat} (hx : x ≤ 10) : ∀ d k v, chF T x d k v ≤ v * 10 ^ d := by
  intro d
  induction d with
  | zero => intro k v; show v ≤ v * 10 ^ 0; omega
  | succ d ih =>
    intro k v
    refine Nat.le_trans (ih (k + 1) _) ?_
    rw [Nat.pow_succ, Nat.mul_comm (10 ^ d) 10, ← Nat.mul_assoc]
    refine Nat.mul_le_mul_right _ (Nat.mul_le_mul_left _ ?_)
    split <;> omega
theorem ch_loop {T : Int32} {x sh : Nat} (hx : x ≤ 10) (hsh : sh ≤ 5) : ∀ (d fuel k v : Nat), d = sh - k → k ≤ sh → d < fuel → LX8_chanceOf_5 T (nI sh) (nI x) fuel (nI v) (nI k) = some (nI (chF T x d k v)) := by
  intro d
  induction d with
  | zero =>
    intro fuel k v q1 q2 q3
    obtain ⟨fu, rfl⟩ : ∃ f, fuel = f + 1 := ⟨fuel - 1, by omega⟩
    rw [LX8_chanceOf_5, vi_p (show nI sh ≤ nI k from by rw [n_le (by omega) (by omega)]; omega)]
    rfl
  | succ d ih =>
    intro fuel k v q1 q2 q3
    obtain ⟨fu, rfl⟩ : ∃ f, fuel = f + 1 := ⟨fuel - 1, by omega⟩
    rw [LX8_chanceOf_5, vi_n (show ¬ nI sh ≤ nI k from by rw [n_le (by omega) (by omega)]; omega)]
    show _ = some (nI (chF T x d (k + 1) _))
    by_cases h : hasB T (nI k)
    · rw [vi_p h, v_l, v_l, n_sub hx, n_mul, nI_add, if_pos h]
      exact ih fu (k + 1) _ (by omega) (by omega) (by omega)
    · rw [vi_n h, v_l, v_l, n_mul, nI_add, if_neg h]
      exact ih fu (k + 1) _ (by omega) (by omega) (by omega)
theorem sgL_snoc (t : Nat → Nat) : ∀ d k, sgL t (d + 1) k = sgL t d k ++ [t (k + d)] := by
  intro d
  induction d with
  | zero => intro k; rfl
  | succ d ih =>
    intro k
    show t k :: sgL t (d + 1) (k + 1) = t k :: sgL t d (k + 1) ++ [t (k + (d + 1))]
    rw [ih (k + 1), show k + 1 + d = k + (d + 1) by omega]
    rfl
section MISSED
variable {W L A : Nat} {com len par lik : Nat → Int32} {fb hb pr : Int32} {r sc gn : Nat → Int32} {a kd xw co sh gu st p q : Nat} {sg : Nat → Nat}
set_option maxHeartbeats 2000000 in
theorem mi_in {T : Int32} {x : Nat} {K : Int64 → Int32 → (Nat → Int32) → Option (Int32 × (Nat → Int32) × Int64 × Int64 × (Nat → Int32))} (hx : x ≤ 10) (hsh : sh ≤ 5) (ha : a < 5) (hs : ∀ k, k < 5 → gn (25 + 5 * a + k) = nI (sg k)) (hg : ∀ k, sg k < 15) : ∀ (d fuel k v n : Nat) (tk : Nat → Int32) (t : Nat → Nat), d = sh - k → k ≤ sh → d < fuel → n ≤ k → (∀ i, i < n → tk i = nI (t i) ∧ t i < 15) → ∃ n' tk' t', LX9_missed_105 (nI a) (nI x) (nI sh) T gn K fuel (lN v) (nI n) (nI k) tk = K (lN (chF T x d k v)) (nI n') tk' ∧ n' ≤ 5 ∧ (∀ i, i < n' → tk' i = nI (t' i) ∧ t' i < 15) ∧ sgL t' n' 0 = sgL t n 0 ++ selL T sg d k := by
  intro d
  induction d with
  | zero =>
    intro fuel k v n tk t q1 q2 q3 q4 q5
    obtain ⟨fu, rfl⟩ : ∃ f, fuel = f + 1 := ⟨fuel - 1, by omega⟩
    rw [LX9_missed_105, vi_p (show nI sh ≤ nI k from by rw [n_le (by omega) (by omega)]; omega)]
    exact ⟨n, tk, t, rfl, by omega, q5, (List.append_nil _).symm⟩
  | succ d ih =>
    intro fuel k v n tk t q1 q2 q3 q4 q5
    obtain ⟨fu, rfl⟩ : ∃ f, fuel = f + 1 := ⟨fuel - 1, by omega⟩
    rw [LX9_missed_105, vi_n (show ¬ nI sh ≤ nI k from by rw [n_le (by omega) (by omega)]; omega), e_has, v_b]
    show ∃ n' tk' t', _ = K (lN (chF T x d (k + 1) _)) (nI n') tk' ∧ _
    by_cases h : hasB T (nI k)
    · rw [if_pos h, if_pos h, vi_n n10]
      simp only [v_l, v_b]
      rw [vi_n n10]
      simp (disch := omega) only [n_mul, nI_add, v_g, n_cl, n_sub hx]
      rw [hs k (by omega), nI_l (show 10 - x < 2 ^ 31 by omega), lN_mul]
      obtain ⟨n', tk', t', e1, e2, e3, e4⟩ := ih fu (k + 1) (v * (10 - x)) (n + 1) (upd tk n (nI (sg k))) (fun i => if i = n then sg k else t i) (by omega) (by omega) (by omega) (by omega) (fun i hi => by
        by_cases e : i = n
        · rw [u_eq e, if_pos e]; exact ⟨rfl, hg k⟩
        · rw [u_ne e, if_neg e]; exact q5 i (by omega))
      refine ⟨n', tk', t', e1, e2, e3, ?_⟩
      rw [e4, sgL_snoc, show selL T sg (d + 1) k = sg k :: selL T sg d (k + 1) from if_pos h, Nat.zero_add, if_pos rfl, List.append_assoc, sgL_congr (sg' := t) n 0 (fun i _ hi => if_neg (by omega))]
      rfl
    · rw [if_neg h, if_neg h, vi_p nI_0]
      simp only [v_l, v_b]
      rw [vi_p nI_0]
      simp only [nI_add]
      rw [nI_l (show x < 2 ^ 31 by omega), lN_mul]
      obtain ⟨n', tk', t', e1, e2, e3, e4⟩ := ih fu (k + 1) (v * x) n tk t (by omega) (by omega) (by omega) (by omega) q5
      refine ⟨n', tk', t', e1, e2, e3, ?_⟩
      rw [e4, show selL T sg (d + 1) k = selL T sg d (k + 1) from if_neg h]
theorem shl5 : ∀ k, k ≤ 5 → (nI 1) <<< (nI k &&& 31) = nI (2 ^ k) := by decide
set_option maxHeartbeats 2000000 in
theorem mi_loop {x : Nat} {x3 : Int32} {al : Nat} (ab be : Int64) (hB : RB W L A com len par lik fb (nI (10 * p + q)) pr r) (hp : p ≤ 5) (hq : q ≤ 4) (h4 : r 4 = nI p) (h5 : r 5 = nI q) (ha : a < 5) (hx : x ≤ 10) (hal : al = 10 ^ sh) (hb' : SAb W L kd xw co sh gu st sg) (hv : SAv r sc gn a kd xw co sh gu st sg) : ∀ (d f1 f2 T Y : Nat) (ws tk : Nat → Int32), d = 2 ^ sh - T → T ≤ 2 ^ sh → d < f1 → d < f2 → Y ≤ T * 100000 → ∃ z w, LX8_missed_86 (nI a) (nI x) x3 (nI sh) (nI al) com len par lik (nI W) (nI (10 * p + q)) sc f1 (nI Y) (nI T) = some z ∧ LX9_missed_87 (nI a) (nI x) x3 (nI sh) (lN al) r gn ab be f2 (lN Y) (nI T) ws tk = some w ∧ z = w.1 := by
  have hB' := hB
  obtain ⟨⟨W8, L6, A5⟩, ⟨h0, h1, h2, h3, h6⟩, -⟩ := hB'
  have hv' := hv
  obtain ⟨⟨a1, a2⟩, ⟨c1, c2⟩, ⟨d1, d2⟩, ⟨e1, e2⟩, ⟨f1', f2'⟩, ⟨g1', g2'⟩, hsg⟩ := hv'
  have hb2 := hb'
  obtain ⟨b1, b2, b3, b4, b5, b6, b7, b8⟩ := hb2
  have h32 : 2 ^ sh ≤ 2 ^ 5 := Nat.pow_le_pow_right (by omega) b4
  have h10 : 10 ^ sh ≤ 10 ^ 5 := Nat.pow_le_pow_right (by omega) b4
  have hal1 : 0 < al := by rw [hal]; exact Nat.pow_pos (by omega)
  intro d
  induction d with
  | zero =>
    intro f1 f2 T Y ws tk q1 q2 q3 q4 q5
    obtain ⟨g1, rfl⟩ : ∃ f, f1 = f + 1 := ⟨f1 - 1, by omega⟩
    obtain ⟨g2, rfl⟩ : ∃ f, f2 = f + 1 := ⟨f2 - 1, by omega⟩
    have hY : Y ≤ 3200000 := by omega
    have hgp : 0 < Nat.gcd al Y := Nat.gcd_pos_of_pos_left _ hal1
    have hgle : Nat.gcd al Y ≤ al := Nat.gcd_le_left _ hal1
    have e : decide (¬ nI (Nat.gcd al Y) = 0) = true := decide_eq_true (by rw [n_eq0 (by omega)]; omega)
    rw [LX8_missed_86, LX9_missed_87, shl5 sh b4, vi_p (show nI (2 ^ sh) ≤ nI T from by rw [n_le (by omega) (by omega)]; omega), vi_p (show nI (2 ^ sh) ≤ nI T from by rw [n_le (by omega) (by omega)]; omega), sX8_commonDivisor, gcd_i 22 vF 0 al Y (by omega) (by omega) (by omega) (by decide) (by omega), v_b, vi_p (show nI 1 ≤ nI (Nat.gcd al Y) from by rw [n_le (by omega) (by omega)]; omega), sX9_lowest, gcd_l (x := Y) (y := al) (by omega) (by omega) 17 vF Y al (by omega) (by rw [Nat.gcd_comm]; exact hgp) (by omega) (by omega) (by decide), v_b, Nat.gcd_comm Y al]
    have y1 := Nat.div_le_self Y (Nat.gcd al Y)
    have y2 := Nat.div_le_self al (Nat.gcd al Y)
    by_cases c : x3 = 0
    · rw [vi_p c, vi_p c, e, v_g1, n_div (by omega) (by omega)]
      exact ⟨_, _, rfl, rfl, (lN_i _).symm⟩
    · rw [vi_n c, vi_n c, e, v_g1, n_div (by omega) (by omega)]
      exact ⟨_, _, rfl, rfl, (lN_i _).symm⟩
  | succ d ih =>
    intro f1 f2 T Y ws tk q1 q2 q3 q4 q5
    obtain ⟨g1, rfl⟩ : ∃ f, f1 = f + 1 := ⟨f1 - 1, by omega⟩
    obtain ⟨g2, rfl⟩ : ∃ f, f2 = f + 1 := ⟨f2 - 1, by omega⟩
    rw [LX8_missed_86, LX9_missed_87, shl5 sh b4, vi_n (show ¬ nI (2 ^ sh) ≤ nI T from by rw [n_le (by omega) (by omega)]; omega), vi_n (show ¬ nI (2 ^ sh) ≤ nI T from by rw [n_le (by omega) (by omega)]; omega), sX0_habit, v_b, e_heavy3 (g := wgt r (nI kd) p q (nI gu) (selL (nI T) sg sh 0)) W8 (fun w hw => by
      rw [e_wgt3 hB (nI T) sg ha hw hp hq b4 e1 (fun k hk => (hsg k hk).1) (fun k _ => b8 k), a1, f1']), v_b, e_cell (by omega), v_b, c1]
    generalize hKK : (fun (v27 : Int64) (v28 : Int32) (v29 : Nat → Int32) => _ : Int64 → Int32 → (Nat → Int32) → Option (Int32 × (Nat → Int32) × Int64 × Int64 × (Nat → Int32))) = KK
    obtain ⟨n', tk', t', m1, m2, m3, m4'⟩ := mi_in (T := nI T) (x := x) (K := KK) (a := a) (gn := gn) (sg := sg) hx b4 ha (fun k hk => (hsg k hk).2) (fun k => by have := b8 k; omega) sh vF 0 1 0 tk (fun _ => 0) rfl (by omega) (by show sh < 20000; omega) (by omega) (fun i hi => absurd hi (by omega))
    rw [show lN 1 = lN 1 from rfl, m1, ← hKK]
    dsimp only
    rw [show sgL (fun _ => 0) 0 0 = [] from rfl, List.nil_append] at m4'
    obtain ⟨ws', w1, w2⟩ := e_weigh9 (r := r) (f := tk') (kd := nI kd) (gu := nI gu) (b := 0) (m := n') (x := p) (y := q) (n := 5) ws t' W8 h0 m2 (by omega) (by omega) (fun k hk => by rw [Nat.zero_add]; exact m3 k hk)
    simp (disch := omega) only [nI_add, v_g, n_cl, a2, f2', h4, h5, c2, Nat.zero_add, w1, v_b, e_great9 W8 h0]
    rw [gb_congr (g := ws') (g' := wgt r (nI kd) p q (nI gu) (selL (nI T) sg sh 0)) W 0 none (fun v hv => by rw [w2 v (by omega), m4']) (fun v e => by cases e), show nI 0 + nI a = nI a from by rw [nI_add, Nat.zero_add], n_cl (show a < 2147483648 by omega), c2]
    have hch : chF (nI T) x sh 0 1 ≤ 100000 := by
      have := chF_le (nI T) hx sh 0 1
      omega
    by_cases c : enc (gb (wgt r (nI kd) p q (nI gu) (selL (nI T) sg sh 0)) W 0 none) = nI xw
    · rw [vi_p c, vi_p c, sX8_chanceOf, ch_loop hx b4 sh vF 0 1 rfl (by omega) (by show sh < 20000; omega), v_b]
      simp only [v_l, nI_add, lN_add]
      exact ih g1 g2 (T + 1) (Y + chF (nI T) x sh 0 1) _ _ (by omega) (by omega) (by omega) (by omega) (by omega)
    · rw [vi_n c, vi_n c]
      simp only [v_l, nI_add, lN_add, Nat.add_zero]
      exact ih g1 g2 (T + 1) Y _ _ (by omega) (by omega) (by omega) (by omega) (Nat.le_trans q5 (Nat.mul_le_mul_right 100000 (Nat.le_succ T)))
theorem mi_pow {x : Nat} {x3 : Int32} (ab be : Int64) (ws tk : Nat → Int32) (hB : RB W L A com len par lik fb (nI (10 * p + q)) pr r) (hp : p ≤ 5) (hq : q ≤ 4) (h4 : r 4 = nI p) (h5 : r 5 = nI q) (ha : a < 5) (hx : x ≤ 10) (hb' : SAb W L kd xw co sh gu st sg) (hv : SAv r sc gn a kd xw co sh gu st sg) : ∀ (d f1 f2 k v : Nat), d = sh - k → k ≤ sh → d < f1 → d < f2 → v = 10 ^ k → ∃ z w, LX8_missed_63 (nI a) (nI x) x3 (nI sh) (nI 0) com len par lik (nI W) (nI (10 * p + q)) sc f1 (nI v) (nI k) = some z ∧ LX9_missed_63 (nI a) (nI x) x3 (nI sh) (lN 0) r gn ws ab be tk f2 (lN v) (nI k) = some w ∧ z = w.1 := by
  have b4 := hb'.2.2.2.1
  intro d
  induction d with
  | zero =>
    intro f1 f2 k v q1 q2 q3 q4 q5
    obtain ⟨g1, rfl⟩ : ∃ f, f1 = f + 1 := ⟨f1 - 1, by omega⟩
    obtain ⟨g2, rfl⟩ : ∃ f, f2 = f + 1 := ⟨f2 - 1, by omega⟩
    obtain rfl : k = sh := by omega
    have h32 : 2 ^ k ≤ 2 ^ 5 := Nat.pow_le_pow_right (by omega) b4
    rw [LX8_missed_63, LX9_missed_63, vi_p (show nI k ≤ nI k from by rw [n_le (by omega) (by omega)]; omega), vi_p (show nI k ≤ nI k from by rw [n_le (by omega) (by omega)]; omega)]
    exact mi_loop ab be hB hp hq h4 h5 ha hx q5 hb' hv (2 ^ k) vF vF 0 0 ws tk rfl (Nat.zero_le _) (by show 2 ^ k < 20000; omega) (by show 2 ^ k < 20000; omega) (by omega)
  | succ d ih =>
    intro f1 f2 k v q1 q2 q3 q4 q5
    obtain ⟨g1, rfl⟩ : ∃ f, f1 = f + 1 := ⟨f1 - 1, by omega⟩
    obtain ⟨g2, rfl⟩ : ∃ f, f2 = f + 1 := ⟨f2 - 1, by omega⟩
    rw [LX8_missed_63, LX9_missed_63, vi_n (show ¬ nI sh ≤ nI k from by rw [n_le (by omega) (by omega)]; omega), vi_n (show ¬ nI sh ≤ nI k from by rw [n_le (by omega) (by omega)]; omega)]
    simp only [v_l, n_mul, lN_mul, nI_add]
    exact ih g1 g2 (k + 1) _ (by omega) (by omega) (by omega) (by omega) (by rw [q5, Nat.pow_succ])
theorem q_missed (ab be : Int64) (ws tk : Nat → Int32) (hB : RB W L A com len par lik fb hb pr r) (hS : SR W L A r sc gn) (x y z : Int32) : ∃ u, sX8_missed com len par lik (nI W) (nI A) hb sc x y z = some u ∧ ∃ w, sX9_missed r gn ws ab be tk x y z = some w ∧ u = w.1 := by
  have hB' := hB
  obtain ⟨⟨W8, L6, A5⟩, ⟨h0, h1, h2, h3, h6⟩, ⟨p, q, p1, p2, q1, q2, h4, h5, hh⟩, -⟩ := hB'
  subst hh
  unfold sX8_missed sX9_missed
  rw [e_isActor3 A5, e_isActor9 A5 h2, e_inN y (by decide) (by decide), e_inN z (by decide) (by decide), v_b, v_b]
  by_cases h : 0 ≤ x.toInt ∧ x.toInt < A
  · rw [if_pos h, vi_n n10, vi_n n10, v_b]
    by_cases c2 : ((0 : Nat) : Int) ≤ y.toInt ∧ y.toInt ≤ ((10 : Nat) : Int)
    · rw [if_pos c2, vi_n n10, vi_n (show ¬ y < 0 from by rw [i_lt, i_0]; omega), vi_n (show ¬ nI 10 < y from by rw [i_lt, i_nI _ (by decide)]; omega), v_b]
      by_cases c3 : ((0 : Nat) : Int) ≤ z.toInt ∧ z.toInt ≤ ((1 : Nat) : Int)
      · rw [if_pos c3, vi_n n10, vi_n (show ¬ z < 0 from by rw [i_lt, i_0]; omega), vi_p (show z ≤ nI 1 from by rw [i_le, i_nI _ (by decide)]; omega)]
        obtain ⟨a, ha, rfl⟩ := n_ofN (N := A) h.1 h.2
        obtain ⟨n, hn, rfl⟩ := n_ofN (x := y) (N := 11) (by omega) (by omega)
        obtain ⟨kd, xw, co, sh, gu, st, sg, hb', hv⟩ := hS.1 a ha
        rw [e_waits4 (show a < 5 by omega) hb'.2.2.2.2.2.1 hv.2.2.2.2.2.1.1, e_waits9 (show a < 5 by omega) hb'.2.2.2.2.2.1 hv.2.2.2.2.2.1.2, v_b, v_b]
        by_cases g : st = 0
        · rw [if_pos g, vi_n n10, vi_n n10, e_cell (by omega), v_b, hv.2.2.2.1.1, nI_add, v_g (by omega) (by omega), n_cl (by omega), v_l, hv.2.2.2.1.2]
          have b4 := hb'.2.2.2.1
          obtain ⟨u, w, u1, u2, u3⟩ := mi_pow (x := n) (x3 := z) ab be ws tk hB p2 q2 h4 h5 (show a < 5 by omega) (by omega) hb' hv sh vF vF 0 1 rfl (by omega) (by show sh < 20000; omega) (by show sh < 20000; omega) rfl
          exact ⟨u, u1, w, u2, u3⟩
        · rw [if_neg g, vi_p nI_0, vi_p nI_0]
          exact ⟨_, rfl, _, rfl, rfl⟩
      · rw [if_neg c3, vi_p nI_0]
        by_cases c : z < 0
        · rw [vi_p c]; exact ⟨_, rfl, _, rfl, rfl⟩
        · rw [vi_n c, vi_n (show ¬ z ≤ nI 1 from by rw [i_lt, i_0] at c; rw [i_le, i_nI _ (by decide)]; omega)]
          exact ⟨_, rfl, _, rfl, rfl⟩
    · rw [if_neg c2, vi_p nI_0]
      by_cases c : y < 0
      · rw [vi_p c]; exact ⟨_, rfl, _, rfl, rfl⟩
      · rw [vi_n c, vi_p (show nI 10 < y from by rw [i_lt, i_0] at c; rw [i_lt, i_nI _ (by decide)]; omega)]
        exact ⟨_, rfl, _, rfl, rfl⟩
  · rw [if_neg h, vi_p nI_0, vi_p nI_0]
    exact ⟨_, rfl, _, rfl, rfl⟩
end MISSED

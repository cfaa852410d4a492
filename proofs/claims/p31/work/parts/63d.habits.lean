/-! values: the officer's habits -/
def SeenR (W A : Nat) (sa sw gs : Nat → Int32) (k : Nat) : Prop := ∀ i, i < k → ∃ a w : Nat, a < A ∧ w < W ∧ sa i = nI a ∧ gs (2 * i) = nI a ∧ sw i = nI w ∧ gs (2 * i + 1) = nI w
theorem so_end {r gn gs ws : Nat → Int32} {p q K : Int32} {f j : Nat} : LX9_areSo_5 p q r gn gs K (f + 1) (nI 0) (nI j) ws = some (nI 0, ws) := by
  rw [LX9_areSo_5]
  by_cases h : nI 2 * K ≤ nI j
  · rw [vi_p h]; rfl
  · rw [vi_n h, vi_p nI_0]; rfl
section HABITS
variable {W L A : Nat} {com len par lik : Nat → Int32} {fb hb pr : Int32} {r sc gn sa sw gs : Nat → Int32}
set_option maxHeartbeats 2000000 in
theorem hold_loop {k p q : Nat} (hB : RB W L A com len par lik fb hb pr r) (hS : SR W L A r sc gn) (hk : k ≤ 6) (hp : p ≤ 5) (hq : q ≤ 4) (hn : SeenR W A sa sw gs k) : ∀ (d f1 f2 i : Nat) (ws : Nat → Int32), d = k - i → i ≤ k → d < f1 → d + 1 < f2 → ∃ b ws', (b = nI 0 ∨ b = nI 1) ∧ LX6_holdsBy_3 (nI (10 * p + q)) sa sw (nI k) com len par lik (nI W) sc f1 (nI i) = some b ∧ LX9_areSo_5 (nI p) (nI q) r gn gs (nI k) f2 (nI 1) (nI (2 * i)) ws = some (b, ws') := by
  have hB' := hB
  obtain ⟨⟨W8, L6, A5⟩, ⟨h0, h1, h2, h3, h6⟩, -⟩ := hB'
  intro d
  induction d with
  | zero =>
    intro f1 f2 i ws q1 q2 q3 q4
    obtain ⟨g1, rfl⟩ : ∃ f, f1 = f + 1 := ⟨f1 - 1, by omega⟩
    obtain ⟨g2, rfl⟩ : ∃ f, f2 = f + 1 := ⟨f2 - 1, by omega⟩
    refine ⟨nI 1, ws, Or.inr rfl, ?_, ?_⟩
    · rw [LX6_holdsBy_3, vi_p (show nI k ≤ nI i from by rw [n_le (by omega) (by omega)]; omega)]
    · rw [LX9_areSo_5, n_mul, vi_p (show nI (2 * k) ≤ nI (2 * i) from by rw [n_le (by omega) (by omega)]; omega), v_z1, v_g1]
  | succ d ih =>
    intro f1 f2 i ws q1 q2 q3 q4
    obtain ⟨g1, rfl⟩ : ∃ f, f1 = f + 1 := ⟨f1 - 1, by omega⟩
    obtain ⟨g2, rfl⟩ : ∃ f, f2 = f + 1 + 1 := ⟨f2 - 2, by omega⟩
    obtain ⟨a, w, ha, hw, s1, s2, s3, s4⟩ := hn i (by omega)
    obtain ⟨kd, x, co, sh, gu, st, sg, hb', hv⟩ := hS.1 a ha
    have hnx := e_next3 hB hp hq (show a < 5 by omega) hb' hv
    unfold wA at hnx
    have hb2 := hb'
    have hv2 := hv
    obtain ⟨b1, b2, b3, b4, b5, b6, b7, b8⟩ := hb2
    obtain ⟨⟨a1, a2⟩, ⟨c1, c2⟩, ⟨d1, d2⟩, ⟨e1, e2⟩, ⟨f1', f2'⟩, ⟨g1', g2'⟩, hsg⟩ := hv2
    obtain ⟨ws', w1, w2⟩ := e_weigh9 (r := r) (f := gn) (kd := nI kd) (gu := nI gu) (b := 25 + 5 * a) (m := sh) (x := p) (y := q) (n := 50) ws sg W8 h0 b4 (by omega) (by omega) (fun k hk => ⟨(hsg k (by omega)).2, by have := b8 k; omega⟩)
    rw [LX6_holdsBy_3, LX9_areSo_5, n_mul, vi_n (show ¬ nI k ≤ nI i from by rw [n_le (by omega) (by omega)]; omega), vi_n (show ¬ nI 6 ≤ nI i from by rw [n_le (by omega) (by omega)]; omega), vi_n (show ¬ nI (2 * k) ≤ nI (2 * i) from by rw [n_le (by omega) (by omega)]; omega), vi_n n10, v_g (by omega) (by omega), v_g (by omega) (by omega), n_cl (by omega), n_cl (by omega), s1, s2, s3]
    simp (disch := omega) only [v_l, nI_add, n_mul, v_g, n_cl, a2, e2, f2', w1, v_b, e_waits4 (show a < 5 by omega) b6 g1', e_waits9 (show a < 5 by omega) b6 g2', hnx]
    by_cases c : st = 0
    · rw [if_pos c, vi_n n10, vi_n n10, e_great9 W8 h0, v_b, gb_congr W 0 none (fun v hv => w2 v (by omega)) (fun v e => by cases e), show nI (2 * i) + nI 1 = nI (2 * i + 1) from nI_add _ _, n_cl (show 2 * i + 1 < 2147483648 by omega), s4]
      by_cases e : enc (gb (wgt r (nI kd) p q (nI gu) (sgL sg sh 0)) W 0 none) = nI w
      · rw [vi_p e, vi_p e, show 2 * i + 2 = 2 * (i + 1) by omega]
        exact ih g1 (g2 + 1) (i + 1) ws' (by omega) (by omega) (by omega) (by omega)
      · rw [vi_n e, vi_n e, so_end]
        exact ⟨_, _, Or.inl rfl, rfl, rfl⟩
    · rw [if_neg c, vi_p nI_0, vi_p nI_0, so_end]
      exact ⟨_, _, Or.inl rfl, rfl, rfl⟩
theorem hab_in {k p : Nat} (hB : RB W L A com len par lik fb hb pr r) (hS : SR W L A r sc gn) (hk : k ≤ 6) (hp : p ≤ 5) (hp2 : 2 ≤ p) (hn : SeenR W A sa sw gs k) {K : Int32 → Int32 → Option Int32} {K' : Int32 → Int32 → (Nat → Int32) → Option (Int32 × (Nat → Int32))} (hK : ∀ (m : Nat) (F : Int32) (ws : Nat → Int32), m ≤ 4 * (p - 1) → (F = -4 ↔ m = 0) → ∃ z ws', K (nI m) F = some z ∧ K' (nI m) F ws = some (z, ws')) : ∀ (d f1 f2 q m : Nat) (F : Int32) (ws : Nat → Int32), d = 5 - q → 1 ≤ q → q ≤ 5 → d < f1 → d < f2 → m ≤ 4 * (p - 2) + (q - 1) → (F = -4 ↔ m = 0) → ∃ z ws', LX8_habits_28 (nI p) com len par lik (nI W) sc sa sw (nI k) K f1 (nI m) F (nI q) = some z ∧ LX9_habits_30 (nI p) r gn gs (nI k) K' f2 (nI m) F (nI q) ws = some (z, ws') := by
  intro d
  induction d with
  | zero =>
    intro f1 f2 q m F ws q1 q2 q3 q4 q5 q6 q7
    obtain ⟨g1, rfl⟩ : ∃ f, f1 = f + 1 := ⟨f1 - 1, by omega⟩
    obtain ⟨g2, rfl⟩ : ∃ f, f2 = f + 1 := ⟨f2 - 1, by omega⟩
    rw [LX8_habits_28, LX9_habits_30, vi_p (show nI 4 < nI q from by rw [n_lt (by omega) (by omega)]; omega), vi_p (show nI 5 ≤ nI q from by rw [n_le (by omega) (by omega)]; omega)]
    exact hK m F ws (by omega) q7
  | succ d ih =>
    intro f1 f2 q m F ws q1 q2 q3 q4 q5 q6 q7
    obtain ⟨g1, rfl⟩ : ∃ f, f1 = f + 1 := ⟨f1 - 1, by omega⟩
    obtain ⟨g2, rfl⟩ : ∃ f, f2 = f + 1 := ⟨f2 - 1, by omega⟩
    obtain ⟨b, ws', hb, e1, e2⟩ := hold_loop hB hS hk hp (show q ≤ 4 by omega) hn k vF vF 0 ws rfl (by omega) (by show k < 20000; omega) (by show k + 1 < 20000; omega)
    rw [LX8_habits_28, LX9_habits_30, vi_n (show ¬ nI 4 < nI q from by rw [n_lt (by omega) (by omega)]; omega), vi_n (show ¬ nI 5 ≤ nI q from by rw [n_le (by omega) (by omega)]; omega)]
    simp only [v_l, n_mul, nI_add]
    rw [sX6_holdsBy, sX9_areSo, e1, v_b]
    rw [show 2 * 0 = 0 from rfl] at e2
    rw [e2, v_b]
    rcases hb with rfl | rfl
    · rw [vi_p nI_0, vi_p nI_0]
      exact ih g1 g2 (q + 1) m F ws' (by omega) (by omega) (by omega) (by omega) (by omega) (by omega) q7
    · rw [vi_n n10, vi_n n10]
      by_cases c : m = 0
      · rw [vi_p (q7.mpr c), vi_p (show nI m = 0 from by rw [c]; exact nI_0)]
        exact ih g1 g2 (q + 1) (m + 1) (nI (10 * p + q)) ws' (by omega) (by omega) (by omega) (by omega) (by omega) (by omega) ⟨fun e => absurd e (m4 (by omega)), fun e => by omega⟩
      · have hF : ¬ F = -4 := fun e => c (q7.mp e)
        rw [vi_n hF, vi_n (show ¬ nI m = 0 from by rw [n_eq0 (by omega)]; exact c)]
        exact ih g1 g2 (q + 1) (m + 1) F ws' (by omega) (by omega) (by omega) (by omega) (by omega) (by omega) ⟨fun e => absurd e hF, fun e => by omega⟩
theorem hab_out {k : Nat} (x : Int32) (hB : RB W L A com len par lik fb hb pr r) (hS : SR W L A r sc gn) (hk : k ≤ 6) (hn : SeenR W A sa sw gs k) : ∀ (d f1 f2 p m : Nat) (F : Int32) (ws : Nat → Int32), d = 6 - p → 2 ≤ p → p ≤ 6 → d < f1 → d < f2 → m ≤ 4 * (p - 2) → (F = -4 ↔ m = 0) → ∃ z ws', LX8_habits_19 x com len par lik (nI W) sc sa sw (nI k) f1 (nI m) F (nI p) = some z ∧ LX9_habits_20 x r gn gs (nI k) f2 (nI m) F (nI p) ws = some (z, ws') := by
  intro d
  induction d with
  | zero =>
    intro f1 f2 p m F ws q1 q2 q3 q4 q5 q6 q7
    obtain ⟨g1, rfl⟩ : ∃ f, f1 = f + 1 := ⟨f1 - 1, by omega⟩
    obtain ⟨g2, rfl⟩ : ∃ f, f2 = f + 1 := ⟨f2 - 1, by omega⟩
    rw [LX8_habits_19, LX9_habits_20, vi_p (show nI 5 < nI p from by rw [n_lt (by omega) (by omega)]; omega), vi_p (show nI 6 ≤ nI p from by rw [n_le (by omega) (by omega)]; omega)]
    by_cases c : x = 0
    · rw [vi_p c, vi_p c]; exact ⟨_, _, rfl, rfl⟩
    · rw [vi_n c, vi_n c]; exact ⟨_, _, rfl, rfl⟩
  | succ d ih =>
    intro f1 f2 p m F ws q1 q2 q3 q4 q5 q6 q7
    obtain ⟨g1, rfl⟩ : ∃ f, f1 = f + 1 := ⟨f1 - 1, by omega⟩
    obtain ⟨g2, rfl⟩ : ∃ f, f2 = f + 1 := ⟨f2 - 1, by omega⟩
    rw [LX8_habits_19, LX9_habits_20, vi_n (show ¬ nI 5 < nI p from by rw [n_lt (by omega) (by omega)]; omega), vi_n (show ¬ nI 6 ≤ nI p from by rw [n_le (by omega) (by omega)]; omega)]
    refine hab_in hB hS hk (by omega) q2 hn (fun m' F' ws' r1 r2 => ?_) 4 vF vF 1 m F ws rfl (by omega) (by omega) (by decide) (by decide) (by omega) q7
    simp only [v_l, nI_add]
    exact ih g1 g2 (p + 1) m' F' ws' (by omega) (by omega) (by omega) (by omega) (by omega) (by omega) r2
theorem q_habits {k : Nat} (ws : Nat → Int32) (hB : RB W L A com len par lik fb hb pr r) (hS : SR W L A r sc gn) (hk : k ≤ 6) (hn : SeenR W A sa sw gs k) (x : Int32) : ∃ z, sX8_habits com len par lik (nI W) sc sa sw (nI k) x = some z ∧ ∃ w, sX9_habits r gn gs (nI k) ws x = some w ∧ z = w.1 := by
  unfold sX8_habits sX9_habits
  rw [e_inN _ (by decide) (by decide), v_b]
  by_cases h : ((0 : Nat) : Int) ≤ x.toInt ∧ x.toInt ≤ ((1 : Nat) : Int)
  · rw [if_pos h, vi_n n10, vi_n (show ¬ x < 0 from by rw [i_lt, i_0]; omega), vi_p (show x ≤ nI 1 from by rw [i_le, i_nI _ (by decide)]; omega)]
    obtain ⟨z, ws', e1, e2⟩ := hab_out x hB hS hk hn 4 vF vF 2 0 (-4) ws rfl (by omega) (by omega) (by decide) (by decide) (by omega) ⟨fun _ => rfl, fun _ => rfl⟩
    exact ⟨z, e1, _, e2, rfl⟩
  · rw [if_neg h, vi_p nI_0]
    by_cases c : x < 0
    · rw [vi_p c]; exact ⟨_, rfl, _, rfl, rfl⟩
    · rw [vi_n c, vi_n (show ¬ x ≤ nI 1 from by rw [i_lt, i_0] at c; rw [i_le, i_nI _ (by decide)]; omega)]
      exact ⟨_, rfl, _, rfl, rfl⟩
end HABITS

/-! values: seasons -/
theorem l_div {a b : Nat} (ha : a < 2 ^ 63) (hb : b < 2 ^ 63) : lN a / lN b = lN (a / b) := (Int64.ofNat_div ha hb).symm
theorem n_mod {a b : Nat} (ha : a < 2147483648) (hb : b < 2147483648) : nI a - nI a / nI b * nI b = nI (a % b) := by
  rw [n_div ha hb, n_mul, n_sub (Nat.div_mul_le_self a b)]
  congr 1
  have := Nat.div_add_mod a b
  rw [Nat.mul_comm] at this
  omega
def dr (z k : Nat) : Nat := ((7919 * z + 6151 * k + 1) * (7919 * z + 6151 * k + 1) % 65521) / 2
theorem dr_lt (z k : Nat) : dr z k < 65521 := by
  unfold dr
  have := Nat.mod_lt ((7919 * z + 6151 * k + 1) * (7919 * z + 6151 * k + 1)) (show 65521 > 0 by omega)
  omega
theorem dr_eq {z k : Nat} (hz : z ≤ 9999) (hk : k ≤ 60) : ∀ X : Int64, X = ((lN 7919 * (nI z).toInt64) + (lN 6151 * (nI k).toInt64)) + lN 1 → Int64.toInt32 (((X * X) - (X * X) / (lN 65521) * (lN 65521)) / (lN 2)) = nI (dr z k) := by
  intro X hX
  rw [nI_l (show z < 2 ^ 31 by omega), nI_l (show k < 2 ^ 31 by omega), lN_mul, lN_mul, lN_add, lN_add] at hX
  subst hX
  have hx : 7919 * z + 6151 * k + 1 ≤ 79551142 := by omega
  have hxx := Nat.mul_le_mul hx hx
  unfold dr
  generalize 7919 * z + 6151 * k + 1 = x at hxx ⊢
  rw [lN_mul, l_div (by omega) (by omega), lN_mul, lN_sub (Nat.div_mul_le_self _ _)]
  have e : x * x - x * x / 65521 * 65521 = x * x % 65521 := by omega
  rw [e, l_div (by omega) (by omega), lN_i]
/-- sums over actors -/
def sm (f : Nat → Int32) : Nat → Nat → Int32 → Int32
  | 0, _, s => s
  | d + 1, a, s => sm f d (a + 1) (s + f a)
theorem sm_sub (f : Nat → Int32) (t : Int32) : ∀ d a s, sm f d a (s - t) = sm f d a s - t := by
  intro d
  induction d with
  | zero => intro a s; rfl
  | succ d ih =>
    intro a s
    show sm f d (a + 1) _ = sm f d (a + 1) _ - t
    rw [← ih, show s - t + f a = s + f a - t by grind]
theorem sm_upd {f f' : Nat → Int32} {b : Nat} {t : Int32} (hb : f' b = f b - t) (ho : ∀ a, ¬ a = b → f' a = f a) : ∀ d a s, (b < a → sm f' d a s = sm f d a s) ∧ (a ≤ b → b < a + d → sm f' d a s = sm f d a s - t) := by
  intro d
  induction d with
  | zero => intro a s; exact ⟨fun _ => rfl, fun h1 h2 => absurd h2 (by omega)⟩
  | succ d ih =>
    intro a s
    refine ⟨fun h => ?_, fun h1 h2 => ?_⟩
    · show sm f' d (a + 1) _ = sm f d (a + 1) _
      rw [ho a (by omega)]
      exact (ih (a + 1) _).1 (by omega)
    · show sm f' d (a + 1) _ = sm f d (a + 1) _ - t
      by_cases q : a = b
      · subst q
        rw [(ih (a + 1) _).1 (by omega), hb, show s + (f a - t) = s + f a - t by grind, sm_sub]
      · rw [ho a q]
        exact (ih (a + 1) _).2 (by omega) (by omega)
section SEASON
variable {W L A : Nat} {com len par lik : Nat → Int32} {fb hb pr : Int32} {r sc gn : Nat → Int32}
theorem sm_loop {j : Nat} (hA : A ≤ 5) (hj : j < 11) : ∀ (d f1 a : Nat) (n : Int32), d = A - a → a ≤ A → d < f1 → LX8_sumOf_5 (nI j) (nI A) sc f1 n (nI a) = some (sm (fun b => sc (b * 11 + j)) d a n) := by
  intro d
  induction d with
  | zero =>
    intro f1 a n q1 q2 q3
    obtain ⟨g1, rfl⟩ : ∃ f, f1 = f + 1 := ⟨f1 - 1, by omega⟩
    rw [LX8_sumOf_5, sX0_actors, v_b, vi_p (show nI A ≤ nI a from by rw [n_le (by omega) (by omega)]; omega)]
    rfl
  | succ d ih =>
    intro f1 a n q1 q2 q3
    obtain ⟨g1, rfl⟩ : ∃ f, f1 = f + 1 := ⟨f1 - 1, by omega⟩
    rw [LX8_sumOf_5, sX0_actors, v_b, vi_n (show ¬ nI A ≤ nI a from by rw [n_le (by omega) (by omega)]; omega), e_cell (by omega), v_b, v_l, v_l, nI_add, ih g1 (a + 1) _ (by omega) (by omega) (by omega)]
    rfl
theorem e_sm {j : Nat} (hA : A ≤ 5) (hj : j < 11) : sX8_sumOf (nI A) sc (nI j) = some (sm (fun b => sc (b * 11 + j)) A 0 (nI 0)) := by
  unfold sX8_sumOf
  exact sm_loop hA hj A vF 0 (nI 0) rfl (by omega) (by show A < 20000; omega)
set_option maxHeartbeats 2000000 in
theorem q_draw {D : Nat} (ws : Nat → Int32) (pd : Int32) (hB : RB W L A com len par lik fb hb pr r) (hA1 : 1 ≤ A) (hS : SR W L A r sc gn) (hD : D < 65521) : ∃ z, sX8_playDraw com len par lik (nI W) (nI L) (nI A) fb hb pr sc (nI D) = some z ∧ ((D / 256 % 3 = 0 ∧ ¬ gn (20 + D % A) = 0 ∧ z = sc) ∨ (D / 256 % 3 = 0 ∧ gn (20 + D % A) = 0 ∧ ∃ w, sX9_guesses r ws pd gn (nI (D % A)) = some w ∧ SR W L A r z w.2.2.2 ∧ sm (fun b => z (b * 11 + 2)) A 0 (nI 0) = sm (fun b => sc (b * 11 + 2)) A 0 (nI 0) - w.2.2.1) ∨ (¬ D / 256 % 3 = 0 ∧ sX9_mayShow gn (nI (D % A)) = some (nI 0) ∧ z = sc) ∨ (¬ D / 256 % 3 = 0 ∧ sX9_mayShow gn (nI (D % A)) = some (nI 1) ∧ ∃ w, sX9_shows r gn (nI (D % A)) (nI (D / 8 % (9 + L))) = some w ∧ SR W L A r z w.2 ∧ sm (fun b => z (b * 11 + 2)) A 0 (nI 0) = sm (fun b => sc (b * 11 + 2)) A 0 (nI 0))) := by
  have hB' := hB
  obtain ⟨⟨W8, L6, A5⟩, ⟨h0, h1, h2, h3, h6⟩, -⟩ := hB'
  have ha : D % A < A := Nat.mod_lt _ (by omega)
  have hs : D / 8 % (9 + L) < 9 + L := Nat.mod_lt _ (by omega)
  obtain ⟨kd, x, co, sh, gu, st, sg, hb', hv⟩ := hS.1 (D % A) ha
  generalize hgA : D % A = a at ha hv ⊢
  generalize hgS : D / 8 % (9 + L) = s at hs ⊢
  unfold sX8_playDraw sX0_actors sX0_signs
  rw [v_b, v_b, nI_add, vi_n (show ¬ nI A < nI 1 from by rw [n_lt (by omega) (by omega)]; omega), vi_p (show nI 1 ≤ nI (9 + L) from by rw [n_le (by omega) (by omega)]; omega), n_mod (by omega) (by omega), hgA, show nI D / nI 256 = nI (D / 256) from n_div (by omega) (by omega), show nI D / nI 8 = nI (D / 8) from n_div (by omega) (by omega), show nI (D / 256) - nI (D / 256) / nI 3 * nI 3 = nI (D / 256 % 3) from n_mod (by omega) (by omega), show nI (D / 8) - nI (D / 8) / nI (9 + L) * nI (9 + L) = nI (D / 8 % (9 + L)) from n_mod (by omega) (by omega), hgS, show decide (¬ nI A = 0) = true from decide_eq_true (by rw [n_eq0 (by omega)]; omega), v_g1, v_l, e_waits4 (show a < 5 by omega) hb'.2.2.2.2.2.1 hv.2.2.2.2.2.1.1, v_b, e_can4 (show a < 5 by omega) hb'.2.2.2.2.2.1 hb'.2.2.2.1 hv.2.2.2.1.1 hv.2.2.2.2.2.1.1, v_b, show decide (¬ nI (9 + L) = 0) = true from decide_eq_true (by rw [n_eq0 (by omega)]; omega), v_g1]
  have hd3 : D / 256 % 3 < 3 := Nat.mod_lt _ (by omega)
  have hst := hb'.2.2.2.2.2.1
  have hother : ∀ (z : Nat → Int32), (∀ j, j < a * 11 ∨ a * 11 + 11 ≤ j → z j = sc j) → ∀ b, ¬ b = a → z (b * 11 + 2) = sc (b * 11 + 2) := fun z hz b hba => hz _ (by omega)
  by_cases c : D / 256 % 3 = 0
  · rw [vi_p (show nI (D / 256 % 3) = 0 from by rw [c]; exact nI_0)]
    by_cases g : st = 0
    · rw [if_pos g, vi_n n10]
      obtain ⟨z, z1, w, w1, e1, e2, e3, e4⟩ := q_guessW ws pd hB (show a < 5 by omega) g hb' hv
      rw [z1, v_b]
      refine ⟨_, rfl, Or.inr (Or.inl ⟨c, by rw [hv.2.2.2.2.2.1.2, g]; exact nI_0, w, w1, SR_off A5 ha e2 hS e3, ?_⟩)⟩
      exact (sm_upd (f := fun b => sc (b * 11 + 2)) (f' := fun b => z.2 (b * 11 + 2)) (b := a) e4 (hother _ e2.1) A 0 (nI 0)).2 (by omega) (by omega)
    · rw [if_neg g, vi_p nI_0]
      exact ⟨_, rfl, Or.inl ⟨c, by rw [hv.2.2.2.2.2.1.2, n_eq0 (by omega)]; exact g, rfl⟩⟩
  · rw [vi_n (show ¬ nI (D / 256 % 3) = 0 from by rw [n_eq0 (by omega)]; exact c)]
    have hm := e_can9 (show a < 5 by omega) hb'.2.2.2.2.2.1 hb'.2.2.2.1 hv.2.2.2.1.2 hv.2.2.2.2.2.1.2
    by_cases g : st = 0 ∧ sh < 5
    · rw [if_pos g, vi_n n10]
      rw [if_pos g] at hm
      obtain ⟨z, z1, w, w1, e1, e2, e3, e4⟩ := q_shows h3 (show a < 5 by omega) hs g.2 hb' hv
      rw [z1, v_b]
      refine ⟨_, rfl, Or.inr (Or.inr (Or.inr ⟨c, hm, w, w1, SR_off A5 ha e2 hS e3, ?_⟩))⟩
      rw [(sm_upd (f := fun b => sc (b * 11 + 2)) (f' := fun b => z.2 (b * 11 + 2)) (b := a) (t := 0) (by rw [Int32.sub_zero]; exact e4) (hother _ e2.1) A 0 (nI 0)).2 (by omega) (by omega), Int32.sub_zero]
    · rw [if_neg g, vi_p nI_0]
      rw [if_neg g] at hm
      exact ⟨_, rfl, Or.inr (Or.inr (Or.inl ⟨c, hm, rfl⟩))⟩
set_option maxHeartbeats 2000000 in
theorem season_loop {zz n : Nat} {x3 : Int32} (hB : RB W L A com len par lik fb hb pr r) (hA1 : 1 ≤ A) (hz : zz ≤ 9999) (hn : n ≤ 60) : ∀ (d f1 f2 k : Nat) (Y : Int32) (tr as ws : Nat → Int32) (pd : Int32), d = n - k → k ≤ n → d < f1 → d < f2 → SR W L A r tr as → sm (fun b => sc (b * 11 + 2)) A 0 (nI 0) - sm (fun b => tr (b * 11 + 2)) A 0 (nI 0) = Y → ∃ z w, LX8_season_47 (nI zz) (nI n) x3 com len par lik (nI W) (nI L) (nI A) fb hb pr sc f1 (nI k) tr = some z ∧ LX9_season_57 (nI zz) (nI n) x3 r f2 Y (nI k) as ws pd = some w ∧ z.1 = w.1 := by
  have hB' := hB
  obtain ⟨⟨W8, L6, A5⟩, ⟨h0, h1, h2, h3, h6⟩, -⟩ := hB'
  intro d
  induction d with
  | zero =>
    intro f1 f2 k Y tr as ws pd q1 q2 q3 q4 hS hY
    obtain ⟨g1, rfl⟩ : ∃ f, f1 = f + 1 := ⟨f1 - 1, by omega⟩
    obtain ⟨g2, rfl⟩ : ∃ f, f2 = f + 1 := ⟨f2 - 1, by omega⟩
    rw [LX8_season_47, LX9_season_57, vi_p (show nI n ≤ nI k from by rw [n_le (by omega) (by omega)]; omega), vi_p (show nI n ≤ nI k from by rw [n_le (by omega) (by omega)]; omega)]
    by_cases c : x3 = 0
    · obtain ⟨m, m1, m2⟩ := q_many (sc := tr) (gn := as) (s := 1) A5 (fun a ha => by
        obtain ⟨kd, x, co, sh, gu, st, sg, -, hv⟩ := hS.1 a ha
        exact hv.2.2.2.2.2.1.1.trans hv.2.2.2.2.2.1.2.symm)
      rw [vi_p c, vi_p c, n_cl (show 2 < 2147483648 by decide), h2, m1, m2, v_b, v_b]
      exact ⟨_, _, rfl, rfl, rfl⟩
    · rw [vi_n c, vi_n c, e_sm A5 (by omega), e_sm A5 (by omega), v_b, v_b]
      exact ⟨_, _, rfl, rfl, hY⟩
  | succ d ih =>
    intro f1 f2 k Y tr as ws pd q1 q2 q3 q4 hS hY
    obtain ⟨g1, rfl⟩ : ∃ f, f1 = f + 1 := ⟨f1 - 1, by omega⟩
    obtain ⟨g2, rfl⟩ : ∃ f, f2 = f + 1 := ⟨f2 - 1, by omega⟩
    have hD := dr_lt zz k
    have ha : dr zz k % A < A := Nat.mod_lt _ (by omega)
    have hd3 : dr zz k / 256 % 3 < 3 := Nat.mod_lt _ (by omega)
    rw [LX8_season_47, LX9_season_57, vi_n (show ¬ nI n ≤ nI k from by rw [n_le (by omega) (by omega)]; omega), vi_n (show ¬ nI n ≤ nI k from by rw [n_le (by omega) (by omega)]; omega), sX8_draw]
    simp only [v_l]
    rw [dr_eq hz (by omega) _ rfl, v_b, n_cl (show 2 < 2147483648 by decide), h2, n_mod (by omega) (by omega), show nI (dr zz k) / nI 256 = nI (dr zz k / 256) from n_div (by omega) (by omega), show nI (dr zz k) / nI 8 = nI (dr zz k / 8) from n_div (by omega) (by omega), show nI (dr zz k / 256) - nI (dr zz k / 256) / nI 3 * nI 3 = nI (dr zz k / 256 % 3) from n_mod (by omega) (by omega), show decide (¬ nI A = 0) = true from decide_eq_true (by rw [n_eq0 (by omega)]; omega), v_g1, nI_add, nI_add, v_g (by omega) (by omega), n_cl (by omega)]
    obtain ⟨z, z1, hc⟩ := q_draw ws pd hB hA1 hS hD
    rw [z1, v_b]
    rcases hc with ⟨c1, c2, c3⟩ | ⟨c1, c2, w, w1, w2, w3⟩ | ⟨c1, c2, c3⟩ | ⟨c1, c2, w, w1, w2, w3⟩
    · rw [vi_p (show nI (dr zz k / 256 % 3) = 0 from by rw [c1]; exact nI_0), vi_n c2, c3]
      exact ih g1 g2 (k + 1) Y tr as ws pd (by omega) (by omega) (by omega) (by omega) hS hY
    · rw [vi_p (show nI (dr zz k / 256 % 3) = 0 from by rw [c1]; exact nI_0), vi_p c2, w1, v_b]
      exact ih g1 g2 (k + 1) _ _ _ _ _ (by omega) (by omega) (by omega) (by omega) w2 (by rw [w3, ← hY]; grind)
    · rw [vi_n (show ¬ nI (dr zz k / 256 % 3) = 0 from by rw [n_eq0 (by omega)]; exact c1), c2, v_b, vi_p nI_0, c3]
      exact ih g1 g2 (k + 1) Y tr as ws pd (by omega) (by omega) (by omega) (by omega) hS hY
    · rw [vi_n (show ¬ nI (dr zz k / 256 % 3) = 0 from by rw [n_eq0 (by omega)]; exact c1), c2, v_b, vi_n n10, sX9_signs, n_cl (show 1 < 2147483648 by decide), h1, nI_add, v_b, show decide (¬ nI (9 + L) = 0) = true from decide_eq_true (by rw [n_eq0 (by omega)]; omega), v_g1, n_mod (by omega) (by omega), w1, v_b]
      exact ih g1 g2 (k + 1) Y _ _ ws pd (by omega) (by omega) (by omega) (by omega) w2 (by rw [w3]; exact hY)
theorem q_season (tr as ws : Nat → Int32) (pd : Int32) (hB : RB W L A com len par lik fb hb pr r) (hA1 : 1 ≤ A) (hS : SR W L A r sc gn) (x y z : Int32) : ∃ u, sX8_season com len par lik (nI W) (nI L) (nI A) fb hb pr sc tr x y z = some u ∧ ∃ w, sX9_season r gn as ws pd x y z = some w ∧ u.1 = w.1 := by
  have A5 := hB.1.2.2
  unfold sX8_season sX9_season
  rw [e_inN x (by decide) (by decide), e_inN y (by decide) (by decide), e_inN z (by decide) (by decide), v_b]
  by_cases c1 : ((0 : Nat) : Int) ≤ x.toInt ∧ x.toInt ≤ ((9999 : Nat) : Int)
  · rw [if_pos c1, vi_n n10, vi_n (show ¬ x < 0 from by rw [i_lt, i_0]; omega), vi_n (show ¬ nI 9999 < x from by rw [i_lt, i_nI _ (by decide)]; omega), v_b]
    by_cases c2 : ((1 : Nat) : Int) ≤ y.toInt ∧ y.toInt ≤ ((60 : Nat) : Int)
    · rw [if_pos c2, vi_n n10, vi_n (show ¬ y < nI 1 from by rw [i_lt, i_nI _ (by decide)]; omega), vi_n (show ¬ nI 60 < y from by rw [i_lt, i_nI _ (by decide)]; omega), v_b]
      by_cases c3 : ((0 : Nat) : Int) ≤ z.toInt ∧ z.toInt ≤ ((1 : Nat) : Int)
      · rw [if_pos c3, vi_n n10, vi_n (show ¬ z < 0 from by rw [i_lt, i_0]; omega), vi_p (show z ≤ nI 1 from by rw [i_le, i_nI _ (by decide)]; omega), e_copies (by omega) (by omega) (by omega) (by omega) (by omega), v_b]
        obtain ⟨zz, hzz, rfl⟩ := n_ofN (x := x) (N := 10000) (by omega) (by omega)
        obtain ⟨n, hn, rfl⟩ := n_ofN (x := y) (N := 61) (by omega) (by omega)
        unfold sX4_copyFrom
        simp (disch := omega) only [v_l, v_b, n_cl]
        have e1 : ∀ j, j < 55 → va_cpy sc tr 0 0 55 j = sc j := fun j hj => by rw [cpy_in (by omega) (by omega), show 0 + (j - 0) = j by omega]
        obtain ⟨u, w, u1, u2, u3⟩ := season_loop (sc := sc) (x3 := z) (zz := zz) (n := n) hB hA1 (by omega) (by omega) n vF vF 0 (nI 0) (va_cpy sc tr 0 0 55) (va_cpy gn as 0 0 50) ws pd rfl (by omega) (by show n < 20000; omega) (by show n < 20000; omega) (SR_congr A5 hS e1 (fun j hj => by rw [cpy_in (by omega) (by omega), show 0 + (j - 0) = j by omega])) (by
          have e2 : ∀ d a s, a + d ≤ 5 → sm (fun b => va_cpy sc tr 0 0 55 (b * 11 + 2)) d a s = sm (fun b => sc (b * 11 + 2)) d a s := by
            intro d
            induction d with
            | zero => intro a s h; rfl
            | succ d ih =>
              intro a s h
              show sm _ d (a + 1) (s + va_cpy sc tr 0 0 55 (a * 11 + 2)) = sm _ d (a + 1) (s + sc (a * 11 + 2))
              rw [e1 (a * 11 + 2) (by omega)]
              exact ih (a + 1) _ (by omega)
          rw [e2 A 0 (nI 0) (by omega), Int32.sub_self, nI_0])
        exact ⟨u, u1, w, u2, u3⟩
      · rw [if_neg c3, vi_p nI_0]
        by_cases c : z < 0
        · rw [vi_p c]; exact ⟨_, rfl, _, rfl, rfl⟩
        · rw [vi_n c, vi_n (show ¬ z ≤ nI 1 from by rw [i_lt, i_0] at c; rw [i_le, i_nI _ (by decide)]; omega)]
          exact ⟨_, rfl, _, rfl, rfl⟩
    · rw [if_neg c2, vi_p nI_0]
      by_cases c : y < nI 1
      · rw [vi_p c]; exact ⟨_, rfl, _, rfl, rfl⟩
      · rw [vi_n c, vi_p (show nI 60 < y from by rw [i_lt, i_nI _ (by decide)] at c; rw [i_lt, i_nI _ (by decide)]; omega)]
        exact ⟨_, rfl, _, rfl, rfl⟩
  · rw [if_neg c1, vi_p nI_0]
    by_cases c : x < 0
    · rw [vi_p c]; exact ⟨_, rfl, _, rfl, rfl⟩
    · rw [vi_n c, vi_p (show nI 9999 < x from by rw [i_lt, i_0] at c; rw [i_lt, i_nI _ (by decide)]; omega)]
      exact ⟨_, rfl, _, rfl, rfl⟩
end SEASON

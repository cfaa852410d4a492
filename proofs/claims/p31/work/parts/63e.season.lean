/-! values: how large a weight may be; telling signs; seasons -/
theorem fac_N (r : Nat → Int32) (kd : Int32) (w s : Nat) {p q : Nat} (hp : p ≤ 5) (hq : q ≤ 4) : ∃ v : Nat, v ≤ 25 ∧ fac r kd w s p q = nI v := by
  have h5 : p * p ≤ 5 * 5 := Nat.mul_le_mul hp hp
  have h4 : q * q ≤ 4 * 4 := Nat.mul_le_mul hq hq
  unfold fac
  generalize (if kd = nI 1 then s + 1 - (s + 1) / 6 * 6 else s) = k
  split
  · split
    · split
      · exact ⟨q * q, by omega, n_mul q q⟩
      · exact ⟨q, by omega, rfl⟩
    · exact ⟨1, by omega, rfl⟩
  · split
    · split
      · exact ⟨1, by omega, rfl⟩
      · exact ⟨0, by omega, rfl⟩
    · split
      · split
        · exact ⟨p + 1, by omega, nI_add p 1⟩
        · split
          · exact ⟨p * p, by omega, n_mul p p⟩
          · exact ⟨p, by omega, rfl⟩
      · exact ⟨1, by omega, rfl⟩
theorem fold_N (r : Nat → Int32) (kd : Int32) (w : Nat) {p q : Nat} (hp : p ≤ 5) (hq : q ≤ 4) : ∀ (l : List Nat) (M v : Nat), v ≤ M → ∃ v' : Nat, v' ≤ M * 25 ^ l.length ∧ l.foldl (fun v s => v * fac r kd w s p q) (nI v) = nI v' := by
  intro l
  induction l with
  | nil => intro M v h; exact ⟨v, by simpa using h, rfl⟩
  | cons s l ih =>
    intro M v h
    obtain ⟨f, f1, f2⟩ := fac_N r kd w s hp hq
    obtain ⟨v', e1, e2⟩ := ih (M * 25) (v * f) (Nat.mul_le_mul h f1)
    refine ⟨v', ?_, ?_⟩
    · rw [List.length_cons, Nat.pow_succ, Nat.mul_comm (25 ^ l.length) 25, ← Nat.mul_assoc]
      exact e1
    · rw [List.foldl_cons, f2, n_mul]
      exact e2
theorem sgL_len (sg : Nat → Nat) : ∀ d k, (sgL sg d k).length = d := by
  intro d
  induction d with
  | zero => intro k; rfl
  | succ d ih => intro k; show (sgL sg d (k + 1)).length + 1 = d + 1; rw [ih]
theorem pow_le : ∀ n, n ≤ 5 → 9 * 25 ^ n ≤ 87890625 := by decide
theorem wgt_N {r : Nat → Int32} {kd gu : Int32} {w p q c : Nat} {l : List Nat} (hp : p ≤ 5) (hq : q ≤ 4) (hc : r (7 + w) = nI c) (hc2 : c ≤ 9) : ∃ v : Nat, v ≤ 9 * 25 ^ l.length ∧ wgt r kd p q gu l w = nI v := by
  unfold wgt
  by_cases h : hasB gu (nI w)
  · rw [if_pos h]
    obtain ⟨v, v1, v2⟩ := fold_N r kd w hp hq l 9 0 (by omega)
    exact ⟨v, v1, v2⟩
  · rw [if_neg h, hc]
    exact fold_N r kd w hp hq l 9 c hc2
/-- a sum in long numbers -/
def sum64 (g : Nat → Int32) : Nat → Nat → Int64 → Int64
  | 0, _, s => s
  | d + 1, w, s => sum64 g d (w + 1) (s + (g w).toInt64)
theorem sum64_congr {g g' : Nat → Int32} : ∀ d w s, (∀ v, v < w + d → g v = g' v) → sum64 g d w s = sum64 g' d w s := by
  intro d
  induction d with
  | zero => intro w s h; rfl
  | succ d ih =>
    intro w s h
    show sum64 g d (w + 1) _ = sum64 g' d (w + 1) _
    rw [h w (by omega)]
    exact ih (w + 1) _ (fun v hv => h v (by omega))
theorem sum64_N {g : Nat → Int32} {M : Nat} (hM : M < 2147483648) : ∀ d w S, (∀ v, v < w + d → ∃ x : Nat, x ≤ M ∧ g v = nI x) → ∃ S' : Nat, S' ≤ S + d * M ∧ sum64 g d w (lN S) = lN S' := by
  intro d
  induction d with
  | zero => intro w S h; exact ⟨S, by omega, rfl⟩
  | succ d ih =>
    intro w S h
    obtain ⟨x, x1, x2⟩ := h w (by omega)
    obtain ⟨S', e1, e2⟩ := ih (w + 1) (S + x) (fun v hv => h v (by omega))
    refine ⟨S', ?_, ?_⟩
    · rw [Nat.add_mul, Nat.one_mul]; omega
    · show sum64 g d (w + 1) _ = _
      rw [x2, nI_l (show x < 2 ^ 31 by omega), lN_add]
      exact e2
section TELLS
variable {W L A : Nat} {com len par lik : Nat → Int32} {fb hb pr : Int32} {r sc gn : Nat → Int32} {a kd x co sh gu st p q : Nat} {sg : Nat → Nat}
theorem sumOf_loop {f : Nat → Int32} (hW : W ≤ 8) (h0 : r 0 = nI W) : ∀ (d fuel w : Nat) (s : Int64), d = W - w → w ≤ W → d < fuel → LX9_sumOf_5 r f fuel s (nI w) = some (sum64 f d w s) := by
  intro d
  induction d with
  | zero =>
    intro fuel w s q1 q2 q3
    obtain ⟨fu, rfl⟩ : ∃ f, fuel = f + 1 := ⟨fuel - 1, by omega⟩
    rw [LX9_sumOf_5, n_cl (by decide), h0, vi_p (show nI W ≤ nI w from by rw [n_le (by omega) (by omega)]; omega)]
    rfl
  | succ d ih =>
    intro fuel w s q1 q2 q3
    obtain ⟨fu, rfl⟩ : ∃ f, fuel = f + 1 := ⟨fuel - 1, by omega⟩
    rw [LX9_sumOf_5, n_cl (by decide), h0, vi_n (show ¬ nI W ≤ nI w from by rw [n_le (by omega) (by omega)]; omega), v_g (by omega) (by omega), n_cl (by omega), v_l, v_l, nI_add, ih fu (w + 1) _ (by omega) (by omega) (by omega)]
    rfl
theorem e_sum9 {f : Nat → Int32} (hW : W ≤ 8) (h0 : r 0 = nI W) : sX9_sumOf r f = some (sum64 f W 0 (lN 0)) := by
  unfold sX9_sumOf
  exact sumOf_loop hW h0 W vF 0 (lN 0) rfl (by omega) (by show W < 20000; omega)
/-- signs tried besides -/
theorem wb_in {row : Nat → Int32} {kd' : Int32} {m w : Nat} {K : Int32 → Option (Int32 × (Nat → Int32))} (rw' : Nat → Nat) (hw : w < 8) (hm : m ≤ 3) (h4 : r 4 = nI p) (h5 : r 5 = nI q) (hs : ∀ k, k < m → row k = nI (rw' k) ∧ rw' k < 15) : ∀ (d fuel k : Nat) (v : Int32), d = m - k → k ≤ m → d < fuel → LX9_wouldBe_26 kd' (nI m) (nI w) r row K fuel v (nI k) = K ((sgL rw' d k).foldl (fun v s => v * fac r kd' w s p q) v) := by
  intro d
  induction d with
  | zero =>
    intro fuel k v q1 q2 q3
    obtain ⟨fu, rfl⟩ : ∃ f, fuel = f + 1 := ⟨fuel - 1, by omega⟩
    rw [LX9_wouldBe_26, vi_p (show nI m ≤ nI k from by rw [n_le (by omega) (by omega)]; omega)]
    rfl
  | succ d ih =>
    intro fuel k v q1 q2 q3
    obtain ⟨fu, rfl⟩ : ∃ f, fuel = f + 1 := ⟨fuel - 1, by omega⟩
    obtain ⟨s1, s2⟩ := hs k (by omega)
    rw [LX9_wouldBe_26, vi_n (show ¬ nI m ≤ nI k from by rw [n_le (by omega) (by omega)]; omega), v_g (by omega) (by omega), n_cl (by omega), n_cl (by omega), n_cl (by omega), s1, h4, h5, e_fac9 hw s2, v_b, v_l, v_l, nI_add, ih fu (k + 1) _ (by omega) (by omega) (by omega)]
    rfl
theorem wb_loop {row ws : Nat → Int32} {kd' t : Int32} {m : Nat} (rw' : Nat → Nat) (hW : W ≤ 8) (h0 : r 0 = nI W) (hm : m ≤ 3) (h4 : r 4 = nI p) (h5 : r 5 = nI q) (hs : ∀ k, k < m → row k = nI (rw' k) ∧ rw' k < 15) : ∀ (d fuel w : Nat) (tr : Nat → Int32), d = W - w → w ≤ W → d < fuel → (∀ v, v < w → tr v = (sgL rw' m 0).foldl (fun u s => u * fac r kd' v s p q) (ws v)) → ∃ tr', LX9_wouldBe_3 kd' t (nI m) r ws row fuel (nI w) tr = some (if enc (gb (fun v => (sgL rw' m 0).foldl (fun u s => u * fac r kd' v s p q) (ws v)) W 0 none) = t then nI 1 else nI 0, tr') ∧ ∀ v, v < W → tr' v = (sgL rw' m 0).foldl (fun u s => u * fac r kd' v s p q) (ws v) := by
  intro d
  induction d with
  | zero =>
    intro fuel w tr q1 q2 q3 q4
    obtain ⟨fu, rfl⟩ : ∃ f, fuel = f + 1 := ⟨fuel - 1, by omega⟩
    rw [LX9_wouldBe_3, n_cl (by decide), h0, vi_p (show nI W ≤ nI w from by rw [n_le (by omega) (by omega)]; omega), e_great9 hW h0, v_b, gb_congr (g' := fun v => (sgL rw' m 0).foldl (fun u s => u * fac r kd' v s p q) (ws v)) W 0 none (fun v hv => q4 v (by omega)) (fun v e => by cases e)]
    refine ⟨tr, ?_, fun v hv => q4 v (by omega)⟩
    by_cases c : enc (gb (fun v => (sgL rw' m 0).foldl (fun u s => u * fac r kd' v s p q) (ws v)) W 0 none) = t
    · rw [vi_p c, if_pos c]
    · rw [vi_n c, if_neg c]
  | succ d ih =>
    intro fuel w tr q1 q2 q3 q4
    obtain ⟨fu, rfl⟩ : ∃ f, fuel = f + 1 := ⟨fuel - 1, by omega⟩
    rw [LX9_wouldBe_3, n_cl (by decide), h0, vi_n (show ¬ nI W ≤ nI w from by rw [n_le (by omega) (by omega)]; omega), v_g (by omega) (by omega), v_l, n_cl (by omega), wb_in (p := p) (q := q) rw' (show w < 8 by omega) hm h4 h5 hs m vF 0 _ rfl (by omega) (by show m < 20000; omega), v_g (by omega) (by omega), v_l, v_l, nI_add]
    refine ih fu (w + 1) _ (by omega) (by omega) (by omega) (fun v hv => ?_)
    by_cases e : v = w
    · subst e
      rw [u_eq rfl]
    · rw [u_ne e]; exact q4 v (by omega)
theorem e_would {row ws : Nat → Int32} {kd' t : Int32} {m : Nat} (tr : Nat → Int32) (rw' : Nat → Nat) (hW : W ≤ 8) (h0 : r 0 = nI W) (hm : m ≤ 3) (h4 : r 4 = nI p) (h5 : r 5 = nI q) (hs : ∀ k, k < m → row k = nI (rw' k) ∧ rw' k < 15) : ∃ tr', sX9_wouldBe r ws tr row kd' t (nI m) = some (if enc (gb (fun v => (sgL rw' m 0).foldl (fun u s => u * fac r kd' v s p q) (ws v)) W 0 none) = t then nI 1 else nI 0, tr') ∧ ∀ v, v < W → tr' v = (sgL rw' m 0).foldl (fun u s => u * fac r kd' v s p q) (ws v) := by
  unfold sX9_wouldBe
  exact wb_loop rw' hW h0 hm h4 h5 hs W vF 0 tr rfl (by omega) (by show W < 20000; omega) (fun v hv => absurd hv (by omega))
theorem e_besides {w s : Nat} (hB : RB W L A com len par lik fb (nI (10 * p + q)) pr r) (hp : p ≤ 5) (hq : q ≤ 4) (ha : a < 5) (hw : w < W) (hs : s < 9 + L) (hb' : SAb W L kd x co sh gu st sg) (hv : SAv r sc gn a kd x co sh gu st sg) : sX8_weightBesides com len par lik (nI (10 * p + q)) sc (nI a) (nI w) (nI s) = some (wA r kd p q gu sh sg w * fac r (nI kd) w s p q) := by
  unfold sX8_weightBesides sX0_habit
  rw [v_b, e_wA3 hB hp hq ha hw hb' hv, v_b, e_cell (by omega), v_b, v_b, Nat.add_zero, hv.1.1, e_fac0 hB hw hs hp hq, v_b]
theorem tsum_loop {s : Nat} {K : Int64 → Option Int32} (hB : RB W L A com len par lik fb (nI (10 * p + q)) pr r) (hp : p ≤ 5) (hq : q ≤ 4) (ha : a < 5) (hs : s < 9 + L) (hb' : SAb W L kd x co sh gu st sg) (hv : SAv r sc gn a kd x co sh gu st sg) : ∀ (d fuel w : Nat) (S : Int64), d = W - w → w ≤ W → d < fuel → LX8_mostTelling_60 (nI a) (nI s) com len par lik (nI W) (nI (10 * p + q)) sc K fuel S (nI w) = K (sum64 (fun v => wA r kd p q gu sh sg v * fac r (nI kd) v s p q) d w S) := by
  have W8 := hB.1.1
  intro d
  induction d with
  | zero =>
    intro fuel w S q1 q2 q3
    obtain ⟨fu, rfl⟩ : ∃ f, fuel = f + 1 := ⟨fuel - 1, by omega⟩
    rw [LX8_mostTelling_60, sX0_words, v_b, vi_p (show nI W ≤ nI w from by rw [n_le (by omega) (by omega)]; omega)]
    rfl
  | succ d ih =>
    intro fuel w S q1 q2 q3
    obtain ⟨fu, rfl⟩ : ∃ f, fuel = f + 1 := ⟨fuel - 1, by omega⟩
    rw [LX8_mostTelling_60, sX0_words, v_b, vi_n (show ¬ nI W ≤ nI w from by rw [n_le (by omega) (by omega)]; omega), e_besides hB hp hq ha (by omega) hs hb' hv, v_b, v_l, v_l, nI_add, ih fu (w + 1) _ (by omega) (by omega) (by omega)]
    rfl
set_option maxHeartbeats 2000000 in
set_option maxRecDepth 100000 in
theorem tell_loop {ws : Nat → Int32} (hB : RB W L A com len par lik fb (nI (10 * p + q)) pr r) (hp : p ≤ 5) (hq : q ≤ 4) (h4 : r 4 = nI p) (h5 : r 5 = nI q) (ha : a < 5) (hsh : sh < 5) (hb' : SAb W L kd x co sh gu st sg) (hv : SAv r sc gn a kd x co sh gu st sg) (hws : ∀ v, v < W → ws v = wA r kd p q gu sh sg v) : ∀ (d f1 f2 s : Nat) (B : Int32) (U Lo : Int64) (tr row : Nat → Int32), d = 9 + L - s → s ≤ 9 + L → d < f1 → d < f2 → ∃ z w, LX8_mostTelling_11 (nI a) com len par lik (nI W) (nI L) fb (nI (10 * p + q)) sc f1 B U Lo (nI s) = some z ∧ LX9_tells_41 (nI a) r gn ws f2 B U Lo (nI s) tr row = some w ∧ z = w.1 := by
  have hB' := hB
  obtain ⟨⟨W8, L6, A5⟩, ⟨h0, h1, h2, h3, h6⟩, -, -, hcom, -⟩ := hB'
  have hv' := hv
  obtain ⟨⟨a1, a2⟩, ⟨c1, c2⟩, ⟨d1, d2⟩, ⟨e1, e2⟩, ⟨f1', f2'⟩, ⟨g1', g2'⟩, hsg⟩ := hv'
  have hx := hb'.2.1
  intro d
  induction d with
  | zero =>
    intro f1 f2 s B U Lo tr row q1 q2 q3 q4
    obtain ⟨g1, rfl⟩ : ∃ f, f1 = f + 1 := ⟨f1 - 1, by omega⟩
    obtain ⟨g2, rfl⟩ : ∃ f, f2 = f + 1 := ⟨f2 - 1, by omega⟩
    rw [LX8_mostTelling_11, LX9_tells_41, sX0_signs, sX9_signs, n_cl (show 1 < 2147483648 by decide), h1, nI_add, v_b, v_b, vi_p (show nI (9 + L) ≤ nI s from by rw [n_le (by omega) (by omega)]; omega), vi_p (show nI (9 + L) ≤ nI s from by rw [n_le (by omega) (by omega)]; omega)]
    exact ⟨_, _, rfl, rfl, rfl⟩
  | succ d ih =>
    intro f1 f2 s B U Lo tr row q1 q2 q3 q4
    obtain ⟨g1, rfl⟩ : ∃ f, f1 = f + 1 := ⟨f1 - 1, by omega⟩
    obtain ⟨g2, rfl⟩ : ∃ f, f2 = f + 1 := ⟨f2 - 1, by omega⟩
    rw [LX8_mostTelling_11, LX9_tells_41, sX0_signs, sX9_signs, n_cl (show 1 < 2147483648 by decide), n_cl (show 3 < 2147483648 by decide), h1, h3, nI_add, v_b, v_b, vi_n (show ¬ nI (9 + L) ≤ nI s from by rw [n_le (by omega) (by omega)]; omega), vi_n (show ¬ nI (9 + L) ≤ nI s from by rw [n_le (by omega) (by omega)]; omega)]
    simp (disch := omega) only [nI_add, v_g, n_cl, e2, a2, c2, Nat.zero_add]
    rw [show nI 10 + nI a = nI (10 + a) from nI_add _ _, n_cl (show 10 + a < 2147483648 by omega), e2, vi_n (show ¬ nI 5 ≤ nI sh from by rw [n_le (by omega) (by omega)]; omega), sX0_isForbidden, e_has, v_b]
    by_cases hf : hasB fb (nI s)
    · rw [vi_p hf, v_b, vi_n n10, if_pos hf, vi_n n10]
      simp only [v_l]
      exact ih g1 g2 (s + 1) B U Lo tr row (by omega) (by omega) (by omega) (by omega)
    · rw [vi_n hf, v_b, vi_p nI_0, if_neg hf, vi_p nI_0, e_cell (by omega), v_b, c1, e_besides hB hp hq ha hx (by omega) hb' hv, v_b]
      simp only [v_l]
      rw [tsum_loop hB hp hq ha (show s < 9 + L by omega) hb' hv W vF 0 (lN 0) rfl (by omega) (by show W < 20000; omega)]
      obtain ⟨tr', t1, t2⟩ := e_would (r := r) (row := upd row 0 (nI s)) (ws := ws) (kd' := nI kd) (t := nI 0) (m := 1) (p := p) (q := q) tr (fun _ => s) W8 h0 (by omega) h4 h5 (fun k hk => ⟨by rw [u_eq (by omega)], by omega⟩)
      have hg : ∀ v, v < W → tr' v = wA r kd p q gu sh sg v * fac r (nI kd) v s p q := fun v hv => by
        rw [t2 v hv, hws v hv]
        rfl
      rw [t1, v_b]
      dsimp only
      rw [e_sum9 W8 h0, v_b, sum64_congr (g' := fun v => wA r kd p q gu sh sg v * fac r (nI kd) v s p q) W 0 _ (fun v hv => hg v (by omega)), hg x hx]
      obtain ⟨S, S1, S2⟩ := sum64_N (g := fun v => wA r kd p q gu sh sg v * fac r (nI kd) v s p q) (M := 87890625) (by omega) W 0 0 (fun v hv => by
        obtain ⟨_, _, _, y, y1, y2, y3⟩ := hcom v (by omega)
        obtain ⟨c', c1', c2'⟩ := fac_N r (nI kd) v s hp hq
        obtain ⟨z, z1, z2⟩ := wgt_N (r := r) (kd := nI kd) (gu := nI gu) (w := v) (l := sgL sg sh 0) hp hq ((hcom v (by omega)).1.symm.trans y3) y2
        refine ⟨z * c', ?_, ?_⟩
        · rw [sgL_len] at z1
          have := Nat.mul_le_mul z1 c1'
          have h5 := pow_le (sh + 1) (by omega)
          rw [Nat.pow_succ, ← Nat.mul_assoc] at h5
          omega
        · show wA r kd p q gu sh sg v * fac r (nI kd) v s p q = _
          rw [c2', show wA r kd p q gu sh sg v = nI z from z2, n_mul])
      have hS : S < 2147483648 := by
        have := Nat.mul_le_mul_right 87890625 W8
        omega
      rw [S2]
      have k1 : ((lg_cmp (lN S) (lN 0)) ≤ 0) = (S = 0) := by
        rw [show (lg_cmp (lN S) (lN 0) ≤ 0) = (lN S ≤ lN 0) from propext (lg_cmp_le _ _), show (lN S ≤ lN 0) = (S ≤ 0) from propext (lN_le (by omega) (by omega))]
        exact propext ⟨fun h => by omega, fun h => by omega⟩
      have k2 : ((lg_cmp (lN S) (lN 0)) = 0) = (S = 0) := by
        rw [show (lg_cmp (lN S) (lN 0) = 0) = (lN S = lN 0) from propext (lg_cmp_eq _ _), show (lN S = lN 0) = (S = 0) from propext (lN_eq (by omega) (by omega))]
      simp only [v_l, v_i, k1, k2]
      generalize hV : (wA r kd p q gu sh sg x * fac r (nI kd) x s p q).toInt64 = V
      by_cases c0 : S = 0
      · simp only [if_pos c0]
        by_cases c1 : B = -4
        · simp only [if_pos c1]
          exact ih g1 g2 (s + 1) _ _ _ _ _ (by omega) (by omega) (by omega) (by omega)
        · simp only [if_neg c1]
          by_cases c2 : lg_cmp (V * Lo) (U * lN 1) ≤ 0
          · simp only [if_pos c2]
            exact ih g1 g2 (s + 1) _ _ _ _ _ (by omega) (by omega) (by omega) (by omega)
          · simp only [if_neg c2]
            exact ih g1 g2 (s + 1) _ _ _ _ _ (by omega) (by omega) (by omega) (by omega)
      · simp only [if_neg c0]
        by_cases c1 : B = -4
        · simp only [if_pos c1]
          exact ih g1 g2 (s + 1) _ _ _ _ _ (by omega) (by omega) (by omega) (by omega)
        · simp only [if_neg c1]
          by_cases c2 : lg_cmp (V * Lo) (U * lN S) ≤ 0
          · simp only [if_pos c2]
            exact ih g1 g2 (s + 1) _ _ _ _ _ (by omega) (by omega) (by omega) (by omega)
          · simp only [if_neg c2]
            exact ih g1 g2 (s + 1) _ _ _ _ _ (by omega) (by omega) (by omega) (by omega)
end TELLS
theorem q_tells {W L A : Nat} {com len par lik : Nat → Int32} {fb hb pr : Int32} {r sc gn : Nat → Int32} (ws tr row : Nat → Int32) (hB : RB W L A com len par lik fb hb pr r) (hS : SR W L A r sc gn) (x : Int32) : ∃ z, sX8_tells com len par lik (nI W) (nI L) (nI A) fb hb sc x = some z ∧ ∃ w, sX9_tells r gn ws tr row x = some w ∧ z = w.1 := by
  have hB' := hB
  obtain ⟨⟨W8, L6, A5⟩, ⟨h0, h1, h2, h3, h6⟩, ⟨p, q, p1, p2, q1, q2, h4, h5, hh⟩, -⟩ := hB'
  subst hh
  unfold sX8_tells sX9_tells
  rw [e_isActor3 A5, e_isActor9 A5 h2, v_b, v_b]
  by_cases h : 0 ≤ x.toInt ∧ x.toInt < A
  · rw [if_pos h, vi_n n10, vi_n n10]
    obtain ⟨a, ha, rfl⟩ := n_ofN (N := A) h.1 h.2
    obtain ⟨kd, x, co, sh, gu, st, sg, hb', hv⟩ := hS.1 a ha
    obtain ⟨ws', w1, w2⟩ := e_wA9 ws W8 L6 h0 h4 h5 (show a < 5 by omega) hb' hv
    rw [e_waits4 (show a < 5 by omega) hb'.2.2.2.2.2.1 hv.2.2.2.2.2.1.1, e_waits9 (show a < 5 by omega) hb'.2.2.2.2.2.1 hv.2.2.2.2.2.1.2, v_b, v_b]
    by_cases g : st = 0
    · rw [if_pos g, vi_n n10, vi_n n10, e_can4 (show a < 5 by omega) hb'.2.2.2.2.2.1 hb'.2.2.2.1 hv.2.2.2.1.1 hv.2.2.2.2.2.1.1, v_b, w1, v_b]
      by_cases c : sh < 5
      · rw [if_pos ⟨g, c⟩, vi_n n10, sX8_mostTelling]
        obtain ⟨z, w, t1, t2, t3⟩ := tell_loop hB p2 q2 h4 h5 (show a < 5 by omega) c hb' hv w2 (9 + L) vF vF 0 (-4) (lN 0) (lN 1) tr row rfl (by omega) (by show 9 + L < 20000; omega) (by show 9 + L < 20000; omega)
        rw [t1, t2, v_b]
        exact ⟨_, rfl, _, rfl, t3⟩
      · rw [if_neg (fun k => c k.2), vi_p nI_0, show vF = 19999 + 1 from rfl, LX9_tells_41, sX9_signs, n_cl (show 1 < 2147483648 by decide), h1, nI_add, v_b, vi_n (show ¬ nI (9 + L) ≤ nI 0 from by rw [n_le (by omega) (by omega)]; omega)]
        simp (disch := omega) only [nI_add, v_g, n_cl, hv.2.2.2.1.2]
        have := hb'.2.2.2.1
        rw [show nI 10 + nI a = nI (10 + a) from nI_add _ _, n_cl (show 10 + a < 2147483648 by omega), hv.2.2.2.1.2, vi_p (show nI 5 ≤ nI sh from by rw [n_le (by omega) (by omega)]; omega)]
        exact ⟨_, rfl, _, rfl, rfl⟩
    · rw [if_neg g, vi_p nI_0, vi_p nI_0]
      exact ⟨_, rfl, _, rfl, rfl⟩
  · rw [if_neg h, vi_p nI_0, vi_p nI_0]
    exact ⟨_, rfl, _, rfl, rfl⟩

/-! values: weights -/
def wgt (r : Nat → Int32) (kd : Int32) (x y : Nat) (gu : Int32) (l : List Nat) (w : Nat) : Int32 :=
  l.foldl (fun v s => v * fac r kd w s x y) (if hasB gu (nI w) then nI 0 else r (7 + w))
/-- d signs from the k-th on; those of them that are taken in -/
def sgL (sg : Nat → Nat) : Nat → Nat → List Nat
  | 0, _ => []
  | d + 1, k => sg k :: sgL sg d (k + 1)
def selL (T : Int32) (sg : Nat → Nat) : Nat → Nat → List Nat
  | 0, _ => []
  | d + 1, k => if hasB T (nI k) then sg k :: selL T sg d (k + 1) else selL T sg d (k + 1)
theorem fold_0 (f : Nat → Int32) (l : List Nat) : l.foldl (fun v s => v * f s) (nI 0) = nI 0 := by
  induction l with
  | nil => rfl
  | cons s l ih => rw [List.foldl_cons, nI_0, Int32.zero_mul, ← nI_0]; exact ih
theorem all31 : ∀ k, k < 5 → hasB (nI 31) (nI k) := by decide
theorem sel_all (sg : Nat → Nat) : ∀ d k, k + d ≤ 5 → selL (nI 31) sg d k = sgL sg d k := by
  intro d
  induction d with
  | zero => intro k h; rfl
  | succ d ih =>
    intro k h
    rw [show selL (nI 31) sg (d + 1) k = sg k :: selL (nI 31) sg d (k + 1) from if_pos (all31 k (by omega)), ih (k + 1) (by omega)]
    rfl
theorem sgL_congr {sg sg' : Nat → Nat} : ∀ d k, (∀ i, k ≤ i → i < k + d → sg i = sg' i) → sgL sg d k = sgL sg' d k := by
  intro d
  induction d with
  | zero => intro k h; rfl
  | succ d ih =>
    intro k h
    rw [show sgL sg (d + 1) k = sg k :: sgL sg d (k + 1) from rfl, h k (by omega) (by omega), ih (k + 1) (fun i h1 h2 => h i (by omega) (by omega))]
    rfl
section WEIGHTS
variable {W L A : Nat} {com len par lik : Nat → Int32} {fb hb pr : Int32} {r : Nat → Int32}
theorem w3_w (hB : RB W L A com len par lik fb hb pr r) {cells : Nat → Int32} {a w x y sh : Nat} (T : Int32) (sg : Nat → Nat) (ha : a < 5) (hw : w < W) (hx : x ≤ 5) (hy : y ≤ 4) (hsh : sh ≤ 5) (c3 : cells (a * 11 + 3) = nI sh) (hs : ∀ k, k < 5 → cells (a * 11 + (6 + k)) = nI (sg k)) (hg : ∀ k, k < 5 → sg k < 9 + L) : ∀ (d fuel k : Nat) (v : Int32), d = sh - k → k ≤ sh → d < fuel → LX0_weightOf_26 (nI a) (nI w) T (nI (10 * x + y)) len par lik cells fuel v (nI k) = some ((selL T sg d k).foldl (fun v s => v * fac r (cells (a * 11)) w s x y) v) := by
  intro d
  induction d with
  | zero =>
    intro fuel k v q1 q2 q3
    obtain ⟨f, rfl⟩ : ∃ f, fuel = f + 1 := ⟨fuel - 1, by omega⟩
    rw [LX0_weightOf_26, e_cell (by omega), v_b, c3, vi_p (show nI sh ≤ nI k from by rw [n_le (by omega) (by omega)]; omega)]
    rfl
  | succ d ih =>
    intro fuel k v q1 q2 q3
    obtain ⟨f, rfl⟩ : ∃ f, fuel = f + 1 := ⟨fuel - 1, by omega⟩
    rw [LX0_weightOf_26, e_cell (by omega), v_b, c3, vi_n (show ¬ nI sh ≤ nI k from by rw [n_le (by omega) (by omega)]; omega), vi_n (show ¬ nI 5 ≤ nI k from by rw [n_le (by omega) (by omega)]; omega)]
    by_cases h : hasB T (nI k)
    · rw [vi_p h, e_cell (by omega), v_b, e_sign (by omega), v_b, hs k (by omega), Nat.add_zero, e_fac0 hB hw (hg k (by omega)) hx hy, v_b, v_l, v_l, nI_add, ih f (k + 1) _ (by omega) (by omega) (by omega), show selL T sg (d + 1) k = sg k :: selL T sg d (k + 1) from if_pos h]
      rfl
    · rw [vi_n h, v_l, nI_add, ih f (k + 1) _ (by omega) (by omega) (by omega), show selL T sg (d + 1) k = selL T sg d (k + 1) from if_neg h]
theorem e_wgt3 (hB : RB W L A com len par lik fb hb pr r) {cells : Nat → Int32} {a w x y sh : Nat} (T : Int32) (sg : Nat → Nat) (ha : a < 5) (hw : w < W) (hx : x ≤ 5) (hy : y ≤ 4) (hsh : sh ≤ 5) (c3 : cells (a * 11 + 3) = nI sh) (hs : ∀ k, k < 5 → cells (a * 11 + (6 + k)) = nI (sg k)) (hg : ∀ k, k < 5 → sg k < 9 + L) : sX0_weightOf com len par lik cells (nI a) (nI w) T (nI (10 * x + y)) = some (wgt r (cells (a * 11)) x y (cells (a * 11 + 4)) (selL T sg sh 0) w) := by
  have hB' := hB
  obtain ⟨⟨b1, b2, b3⟩, -, -, -, hw', hl⟩ := hB'
  unfold sX0_weightOf sX0_commonOf
  rw [e_cell (by omega), v_b]
  unfold wgt
  by_cases h : hasB (cells (a * 11 + 4)) (nI w)
  · rw [vi_p h, if_pos h, fold_0]
  · rw [vi_n h, if_neg h, vi_n (show ¬ nI w < 0 from nI_pos (by omega)), vi_n (show ¬ nI 8 ≤ nI w from by rw [n_le (by omega) (by omega)]; omega), v_g (by omega) (by omega), v_b, n_cl (by omega), (hw' w hw).1]
    exact w3_w hB T sg ha hw hx hy hsh c3 hs hg sh vF 0 _ rfl (by omega) (by show sh < 20000; omega)
/-! the heaviest -/
def gb (g : Nat → Int32) : Nat → Nat → Option Nat → Option Nat
  | 0, _, b => b
  | d + 1, w, none => gb g d (w + 1) (if 0 < (g w).toInt then some w else none)
  | d + 1, w, some v => gb g d (w + 1) (if (g v).toInt < (g w).toInt then some w else some v)
def enc (b : Option Nat) : Int32 := match b with
  | none => -4
  | some v => nI v
def top (g : Nat → Int32) (b : Option Nat) : Int32 := match b with
  | none => nI 0
  | some v => g v
theorem gb_lt (g : Nat → Int32) : ∀ (d w : Nat) (b : Option Nat), (∀ v, b = some v → v < w + d ∧ 0 < (g v).toInt) → ∀ v, gb g d w b = some v → v < w + d ∧ 0 < (g v).toInt := by
  intro d
  induction d with
  | zero => intro w b h v hv; exact h v hv
  | succ d ih =>
    intro w b h v hv
    cases b with
    | none =>
      have := ih (w + 1) _ (fun u hu => by
        by_cases q : 0 < (g w).toInt
        · rw [if_pos q] at hu
          cases hu
          exact ⟨by omega, q⟩
        · rw [if_neg q] at hu
          cases hu) v hv
      exact ⟨by omega, this.2⟩
    | some b =>
      have hb := h b rfl
      have := ih (w + 1) _ (fun u hu => by
        by_cases q : (g b).toInt < (g w).toInt
        · rw [if_pos q] at hu
          cases hu
          exact ⟨by omega, by omega⟩
        · rw [if_neg q] at hu
          cases hu
          exact ⟨by omega, hb.2⟩) v hv
      exact ⟨by omega, this.2⟩
theorem gb_congr {g g' : Nat → Int32} : ∀ (d w : Nat) (b : Option Nat), (∀ v, v < w + d → g v = g' v) → (∀ v, b = some v → v < w + d) → gb g d w b = gb g' d w b := by
  intro d
  induction d with
  | zero => intro w b h hb; rfl
  | succ d ih =>
    intro w b h hb
    cases b with
    | none =>
      show gb g d (w + 1) _ = gb g' d (w + 1) _
      rw [h w (by omega)]
      refine ih (w + 1) _ (fun v hv => h v (by omega)) (fun v hv => ?_)
      split at hv
      · cases hv; omega
      · cases hv
    | some b =>
      show gb g d (w + 1) _ = gb g' d (w + 1) _
      have hb2 := hb b rfl
      rw [h w (by omega), h b (by omega)]
      refine ih (w + 1) _ (fun v hv => h v (by omega)) (fun v hv => ?_)
      split at hv
      · cases hv; omega
      · cases hv; omega
theorem enc_no {b : Option Nat} (h : ∀ v, b = some v → v < 8) : (enc b = -4) = (b = none) := by
  cases b with
  | none => exact propext ⟨fun _ => rfl, fun _ => rfl⟩
  | some v =>
    have := h v rfl
    refine propext ⟨fun e => absurd e (m4 (by omega)), fun e => by cases e⟩
theorem h3_loop {com len par lik cells : Nat → Int32} {g : Nat → Int32} {W : Nat} {a T h : Int32} (hW : W ≤ 8) (hg : ∀ w, w < W → sX0_weightOf com len par lik cells a (nI w) T h = some (g w)) : ∀ (d fuel w : Nat) (b : Option Nat), d = W - w → w ≤ W → d < fuel → LX0_heaviest_10 a T h com len par lik (nI W) cells fuel (enc b) (top g b) (nI w) = some (enc (gb g d w b)) := by
  intro d
  induction d with
  | zero =>
    intro fuel w b q1 q2 q3
    obtain ⟨f, rfl⟩ : ∃ f, fuel = f + 1 := ⟨fuel - 1, by omega⟩
    rw [LX0_heaviest_10, vi_p (show nI W ≤ nI w from by rw [n_le (by omega) (by omega)]; omega)]
    rfl
  | succ d ih =>
    intro fuel w b q1 q2 q3
    obtain ⟨f, rfl⟩ : ∃ f, fuel = f + 1 := ⟨fuel - 1, by omega⟩
    rw [LX0_heaviest_10, vi_n (show ¬ nI W ≤ nI w from by rw [n_le (by omega) (by omega)]; omega), hg w (by omega), v_b]
    cases b with
    | none =>
      show _ = some (enc (gb g d (w + 1) _))
      by_cases q : 0 < (g w).toInt
      · rw [if_pos q, vi_n (show ¬ g w ≤ top g none from by rw [i_le]; show ¬ (g w).toInt ≤ (nI 0).toInt; rw [i_nI _ (by decide)]; omega), v_l, nI_add]
        exact ih f (w + 1) (some w) (by omega) (by omega) (by omega)
      · rw [if_neg q, vi_p (show g w ≤ top g none from by rw [i_le]; show (g w).toInt ≤ (nI 0).toInt; rw [i_nI _ (by decide)]; omega), v_l, nI_add]
        exact ih f (w + 1) none (by omega) (by omega) (by omega)
    | some v =>
      show _ = some (enc (gb g d (w + 1) _))
      by_cases q : (g v).toInt < (g w).toInt
      · rw [if_pos q, vi_n (show ¬ g w ≤ top g (some v) from by rw [i_le]; show ¬ (g w).toInt ≤ (g v).toInt; omega), v_l, nI_add]
        exact ih f (w + 1) (some w) (by omega) (by omega) (by omega)
      · rw [if_neg q, vi_p (show g w ≤ top g (some v) from by rw [i_le]; show (g w).toInt ≤ (g v).toInt; omega), v_l, nI_add]
        exact ih f (w + 1) (some v) (by omega) (by omega) (by omega)
theorem e_heavy3 {com len par lik cells : Nat → Int32} {g : Nat → Int32} {W : Nat} {a T h : Int32} (hW : W ≤ 8) (hg : ∀ w, w < W → sX0_weightOf com len par lik cells a (nI w) T h = some (g w)) : sX0_heaviest com len par lik (nI W) cells a T h = some (enc (gb g W 0 none)) := by
  unfold sX0_heaviest
  exact h3_loop hW hg W vF 0 none rfl (by omega) (by show W < 20000; omega)
theorem g9_loop {f : Nat → Int32} {W : Nat} (hW : W ≤ 8) (h0 : r 0 = nI W) : ∀ (d fuel w : Nat) (b : Option Nat), d = W - w → w ≤ W → d < fuel → (∀ v, b = some v → v < W ∧ 0 < (f v).toInt) → LX9_greatest_5 r f fuel (enc b) (nI w) = some (enc (gb f d w b)) := by
  intro d
  induction d with
  | zero =>
    intro fuel w b q1 q2 q3 hb
    obtain ⟨fu, rfl⟩ : ∃ f, fuel = f + 1 := ⟨fuel - 1, by omega⟩
    rw [LX9_greatest_5, n_cl (by decide), h0, vi_p (show nI W ≤ nI w from by rw [n_le (by omega) (by omega)]; omega)]
    rfl
  | succ d ih =>
    intro fuel w b q1 q2 q3 hb
    obtain ⟨fu, rfl⟩ : ∃ f, fuel = f + 1 := ⟨fuel - 1, by omega⟩
    rw [LX9_greatest_5, n_cl (by decide), h0, vi_n (show ¬ nI W ≤ nI w from by rw [n_le (by omega) (by omega)]; omega), v_g (by omega) (by omega), n_cl (by omega)]
    have i0 : ∀ x : Int32, (x ≤ 0) = (x.toInt ≤ 0) := fun x => by rw [i_le, i_0]
    by_cases p : f w ≤ 0
    · rw [vi_p p, v_l, nI_add]
      rw [i0] at p
      cases b with
      | none =>
        show _ = some (enc (gb f d (w + 1) _))
        rw [if_neg (show ¬ 0 < (f w).toInt by omega)]
        exact ih fu (w + 1) none (by omega) (by omega) (by omega) hb
      | some v =>
        have := hb v rfl
        show _ = some (enc (gb f d (w + 1) _))
        rw [if_neg (show ¬ (f v).toInt < (f w).toInt by omega)]
        exact ih fu (w + 1) (some v) (by omega) (by omega) (by omega) hb
    · rw [vi_n p]
      rw [i0] at p
      cases b with
      | none =>
        rw [vi_p (show enc none = -4 from rfl), v_l, nI_add]
        show _ = some (enc (gb f d (w + 1) _))
        rw [if_pos (show 0 < (f w).toInt by omega)]
        exact ih fu (w + 1) (some w) (by omega) (by omega) (by omega) (fun v e => by cases e; exact ⟨by omega, by omega⟩)
      | some v =>
        have hv := hb v rfl
        rw [vi_n (show ¬ enc (some v) = -4 from m4 (by omega)), v_g (by omega) (by omega), show enc (some v) = nI v from rfl, v_g (by omega) (by omega), n_cl (by omega)]
        show _ = some (enc (gb f d (w + 1) _))
        by_cases q : (f v).toInt < (f w).toInt
        · rw [if_pos q, vi_n (show ¬ f w ≤ f v from by rw [i_le]; omega), v_l, nI_add]
          exact ih fu (w + 1) (some w) (by omega) (by omega) (by omega) (fun u e => by cases e; exact ⟨by omega, by omega⟩)
        · rw [if_neg q, vi_p (show f w ≤ f v from by rw [i_le]; omega), v_l, nI_add]
          exact ih fu (w + 1) (some v) (by omega) (by omega) (by omega) hb
theorem e_great9 {f : Nat → Int32} {W : Nat} (hW : W ≤ 8) (h0 : r 0 = nI W) : sX9_greatest r f = some (enc (gb f W 0 none)) := by
  unfold sX9_greatest
  exact g9_loop hW h0 W vF 0 none rfl (by omega) (by show W < 20000; omega) (fun v e => by cases e)
theorem w9_w {f : Nat → Int32} {kd : Int32} {b m x y w n : Nat} {K : Int32 → Option (Nat → Int32)} (sg : Nat → Nat) (hw : w < 8) (hm : m ≤ 5) (hn : b + m ≤ n) (hn2 : n ≤ 1000) (hs : ∀ k, k < m → f (b + k) = nI (sg k) ∧ sg k < 15) : ∀ (d fuel k : Nat) (v : Int32), d = m - k → k ≤ m → d < fuel → LX9_weigh_43 kd (nI b) (nI m) (nI x) (nI y) (nI w) r f n K fuel v (nI k) = K ((sgL sg d k).foldl (fun v s => v * fac r kd w s x y) v) := by
  intro d
  induction d with
  | zero =>
    intro fuel k v q1 q2 q3
    obtain ⟨fu, rfl⟩ : ∃ f, fuel = f + 1 := ⟨fuel - 1, by omega⟩
    rw [LX9_weigh_43, vi_p (show nI m ≤ nI k from by rw [n_le (by omega) (by omega)]; omega)]
    rfl
  | succ d ih =>
    intro fuel k v q1 q2 q3
    obtain ⟨fu, rfl⟩ : ∃ f, fuel = f + 1 := ⟨fuel - 1, by omega⟩
    obtain ⟨s1, s2⟩ := hs k (by omega)
    rw [LX9_weigh_43, vi_n (show ¬ nI m ≤ nI k from by rw [n_le (by omega) (by omega)]; omega), nI_add, v_g (by omega) (by omega), n_cl (by omega), s1, e_fac9 hw s2, v_b, v_l, v_l, nI_add, ih fu (k + 1) _ (by omega) (by omega) (by omega)]
    rfl
theorem w9_loop2 {f : Nat → Int32} {kd gu : Int32} {b m x y n W : Nat} (sg : Nat → Nat) (hW : W ≤ 8) (h0 : r 0 = nI W) (hm : m ≤ 5) (hn : b + m ≤ n) (hn2 : n ≤ 1000) (hs : ∀ k, k < m → f (b + k) = nI (sg k) ∧ sg k < 15) : ∀ (d fuel w : Nat) (ws : Nat → Int32), d = W - w → w ≤ W → d < fuel → ∃ ws', LX9_weigh_3 kd (nI b) (nI m) gu (nI x) (nI y) r f n fuel (nI w) ws = some ws' ∧ (∀ v, v < w → ws' v = ws v) ∧ (∀ v, w ≤ v → v < W → ws' v = wgt r kd x y gu (sgL sg m 0) v) := by
  intro d
  induction d with
  | zero =>
    intro fuel w ws q1 q2 q3
    obtain ⟨fu, rfl⟩ : ∃ f, fuel = f + 1 := ⟨fuel - 1, by omega⟩
    rw [LX9_weigh_3, n_cl (by decide), h0, vi_p (show nI W ≤ nI w from by rw [n_le (by omega) (by omega)]; omega)]
    exact ⟨ws, rfl, fun _ _ => rfl, fun v h1 h2 => absurd h2 (by omega)⟩
  | succ d ih =>
    intro fuel w ws q1 q2 q3
    obtain ⟨fu, rfl⟩ : ∃ f, fuel = f + 1 := ⟨fuel - 1, by omega⟩
    have key : ∀ c : Int32, c = (if hasB gu (nI w) then nI 0 else r (7 + w)) → ∃ ws', LX9_weigh_43 kd (nI b) (nI m) (nI x) (nI y) (nI w) r f n (fun (v11 : Int32) =>
            vg (vin (nI w) 8) (
            vlet (upd ws (Int32.toNatClampNeg (nI w)) v11) fun u13 =>
            vlet (nI w + (nI 1)) fun y14 =>
            LX9_weigh_3 kd (nI b) (nI m) gu (nI x) (nI y) r f n fu y14 u13)) vF c (nI 0) = some ws' ∧ (∀ v, v < w → ws' v = ws v) ∧ (∀ v, w ≤ v → v < W → ws' v = wgt r kd x y gu (sgL sg m 0) v) := by
      intro c hc
      rw [w9_w sg (by omega) hm hn hn2 hs m vF 0 c rfl (by omega) (by show m < 20000; omega), v_g (by omega) (by omega), v_l, v_l, n_cl (by omega), nI_add]
      obtain ⟨ws', e1, e2, e3⟩ := ih fu (w + 1) (upd ws w ((sgL sg m 0).foldl (fun v s => v * fac r kd w s x y) c)) (by omega) (by omega) (by omega)
      refine ⟨ws', e1, fun v hv => ?_, fun v h1 h2 => ?_⟩
      · rw [e2 v (by omega), u_ne (by omega)]
      · by_cases q : v = w
        · subst q
          rw [e2 v (by omega), u_eq rfl, hc]
          rfl
        · exact e3 v (by omega) h2
    rw [LX9_weigh_3, n_cl (by decide), h0, vi_n (show ¬ nI W ≤ nI w from by rw [n_le (by omega) (by omega)]; omega), e_has, v_b]
    by_cases h : hasB gu (nI w)
    · rw [if_pos h, vi_n n10]
      exact key (nI 0) (by rw [if_pos h])
    · rw [if_neg h, vi_p nI_0, show nI 7 + nI w = nI (7 + w) from nI_add 7 w, v_g (by omega) (by omega), v_l, n_cl (show 7 + w < 2147483648 by omega)]
      exact key (r (7 + w)) (by rw [if_neg h])
theorem e_weigh9 {f : Nat → Int32} {kd gu : Int32} {b m x y n W : Nat} (ws : Nat → Int32) (sg : Nat → Nat) (hW : W ≤ 8) (h0 : r 0 = nI W) (hm : m ≤ 5) (hn : b + m ≤ n) (hn2 : n ≤ 1000) (hs : ∀ k, k < m → f (b + k) = nI (sg k) ∧ sg k < 15) : ∃ ws', sX9_weigh n r ws f kd (nI b) (nI m) gu (nI x) (nI y) = some ws' ∧ ∀ v, v < W → ws' v = wgt r kd x y gu (sgL sg m 0) v := by
  unfold sX9_weigh
  obtain ⟨ws', e1, _, e3⟩ := w9_loop2 (r := r) (f := f) (kd := kd) (gu := gu) (x := x) (y := y) sg hW h0 hm hn hn2 hs W vF 0 ws rfl (by omega) (by show W < 20000; omega)
  exact ⟨ws', e1, fun v hv => e3 v (by omega) hv⟩
end WEIGHTS

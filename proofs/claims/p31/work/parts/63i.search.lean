/-! values: the class's search -/
def opn (g ln : Nat → Int32) : Nat → Nat → Nat
  | 0, _ => 0
  | d + 1, w => (if 0 < (g w).toInt ∧ ln w = -4 then 1 else 0) + opn g ln d (w + 1)
theorem opn_congr {g ln ln' : Nat → Int32} : ∀ d w, (∀ v, w ≤ v → v < w + d → ln v = ln' v) → opn g ln d w = opn g ln' d w := by
  intro d
  induction d with
  | zero => intro w h; rfl
  | succ d ih =>
    intro w h
    show (if 0 < (g w).toInt ∧ ln w = -4 then 1 else 0) + opn g ln d (w + 1) = (if 0 < (g w).toInt ∧ ln' w = -4 then 1 else 0) + opn g ln' d (w + 1)
    rw [h w (by omega) (by omega), ih (w + 1) (fun v h1 h2 => h v (by omega) (by omega))]
theorem opn_le (g ln : Nat → Int32) : ∀ d w, opn g ln d w ≤ d := by
  intro d
  induction d with
  | zero => intro w; exact Nat.le_refl 0
  | succ d ih =>
    intro w
    have := ih (w + 1)
    show (if 0 < (g w).toInt ∧ ln w = -4 then 1 else 0) + opn g ln d (w + 1) ≤ d + 1
    split <;> omega
theorem opn_0 {g ln : Nat → Int32} : ∀ d w, opn g ln d w = 0 → ∀ v, w ≤ v → v < w + d → ln v = -4 → ¬ 0 < (g v).toInt := by
  intro d
  induction d with
  | zero => intro w h v h1 h2; omega
  | succ d ih =>
    intro w h v h1 h2 h3
    have e : (if 0 < (g w).toInt ∧ ln w = -4 then 1 else 0) + opn g ln d (w + 1) = 0 := h
    by_cases c : v = w
    · subst c
      intro p
      rw [if_pos ⟨p, h3⟩] at e
      omega
    · exact ih (w + 1) (by omega) v (by omega) (by omega) h3
theorem opn_upd {g ln : Nat → Int32} {b : Nat} {x : Int32} (hg : 0 < (g b).toInt) (hb : ln b = -4) (hx : ¬ x = -4) : ∀ d w, (b < w → opn g (upd ln b x) d w = opn g ln d w) ∧ (w ≤ b → b < w + d → opn g (upd ln b x) d w + 1 = opn g ln d w) := by
  intro d
  induction d with
  | zero => intro w; exact ⟨fun _ => rfl, fun h1 h2 => by omega⟩
  | succ d ih =>
    intro w
    refine ⟨fun h => ?_, fun h1 h2 => ?_⟩
    · show (if 0 < (g w).toInt ∧ upd ln b x w = -4 then 1 else 0) + opn g (upd ln b x) d (w + 1) = (if 0 < (g w).toInt ∧ ln w = -4 then 1 else 0) + opn g ln d (w + 1)
      rw [u_ne (by omega), (ih (w + 1)).1 (by omega)]
    · show (if 0 < (g w).toInt ∧ upd ln b x w = -4 then 1 else 0) + opn g (upd ln b x) d (w + 1) + 1 = (if 0 < (g w).toInt ∧ ln w = -4 then 1 else 0) + opn g ln d (w + 1)
      by_cases c : w = b
      · subst c
        rw [u_eq rfl, (ih (w + 1)).1 (by omega), if_neg (fun e => hx e.2), if_pos ⟨hg, hb⟩]
        omega
      · rw [u_ne c]
        have := (ih (w + 1)).2 (by omega) (by omega)
        omega
section SEARCH
variable {W L A : Nat} {com len par lik : Nat → Int32} {fb hb pr : Int32} {r : Nat → Int32}
theorem waf_loop {cells g : Nat → Int32} {a h : Int32} (hW : W ≤ 8) (hg : ∀ w, w < W → sX0_weightOf com len par lik cells a (nI w) (nI 31) h = some (g w)) : ∀ (d fuel w o : Nat) (wt ln : Nat → Int32), d = W - w → w ≤ W → d < fuel → o ≤ w → ∃ wt' ln', LX5_weighAtFirst_21 a (nI W) com len par lik h cells fuel (nI w) wt ln (nI o) = some (wt', ln', nI W, nI (o + opn g ln' d w)) ∧ (∀ v, v < w → wt' v = wt v ∧ ln' v = ln v) ∧ ∀ v, w ≤ v → v < W → wt' v = g v ∧ ln' v = -4 := by
  intro d
  induction d with
  | zero =>
    intro fuel w o wt ln q1 q2 q3 q4
    obtain ⟨f, rfl⟩ : ∃ f, fuel = f + 1 := ⟨fuel - 1, by omega⟩
    rw [LX5_weighAtFirst_21, vi_p (show nI W ≤ nI w from by rw [n_le (by omega) (by omega)]; omega)]
    exact ⟨wt, ln, rfl, fun _ _ => ⟨rfl, rfl⟩, fun v h1 h2 => absurd h2 (by omega)⟩
  | succ d ih =>
    intro fuel w o wt ln q1 q2 q3 q4
    obtain ⟨f, rfl⟩ : ∃ f, fuel = f + 1 := ⟨fuel - 1, by omega⟩
    rw [LX5_weighAtFirst_21, vi_n (show ¬ nI W ≤ nI w from by rw [n_le (by omega) (by omega)]; omega), sX0_habit, v_g (by omega) (by omega)]
    simp only [v_l, v_b]
    rw [hg w (by omega), v_b, v_g (by omega) (by omega), v_g (by omega) (by omega), n_cl (by omega), u_eq rfl, nI_add, nI_add]
    have i0 : ∀ x : Int32, (x ≤ 0) = (x.toInt ≤ 0) := fun x => by rw [i_le, i_0]
    have fin : ∀ (wt' ln' : Nat → Int32), (∀ v, v < w + 1 → wt' v = upd wt w (g w) v ∧ ln' v = upd ln w (-4) v) → (∀ v, w + 1 ≤ v → v < W → wt' v = g v ∧ ln' v = -4) → (∀ v, v < w → wt' v = wt v ∧ ln' v = ln v) ∧ ∀ v, w ≤ v → v < W → wt' v = g v ∧ ln' v = -4 := by
      intro wt' ln' h1 h2
      refine ⟨fun v hv => ?_, fun v v1 v2 => ?_⟩
      · obtain ⟨e1, e2⟩ := h1 v (by omega)
        rw [e1, e2, u_ne (by omega), u_ne (by omega)]
        exact ⟨rfl, rfl⟩
      · by_cases c : v = w
        · obtain ⟨e1, e2⟩ := h1 v (by omega)
          rw [e1, e2, u_eq c, u_eq c, c]
          exact ⟨rfl, rfl⟩
        · exact h2 v (by omega) v2
    by_cases c : g w ≤ 0
    · rw [vi_p c]
      obtain ⟨wt', ln', e1, e2, e3⟩ := ih f (w + 1) o (upd wt w (g w)) (upd ln w (-4)) (by omega) (by omega) (by omega) (by omega)
      refine ⟨wt', ln', ?_, fin wt' ln' e2 e3⟩
      rw [i0] at c
      rw [e1, show opn g ln' (d + 1) w = opn g ln' d (w + 1) from by
        show (if 0 < (g w).toInt ∧ ln' w = -4 then 1 else 0) + opn g ln' d (w + 1) = _
        rw [if_neg (by omega), Nat.zero_add]]
    · rw [vi_n c]
      obtain ⟨wt', ln', e1, e2, e3⟩ := ih f (w + 1) (o + 1) (upd wt w (g w)) (upd ln w (-4)) (by omega) (by omega) (by omega) (by omega)
      refine ⟨wt', ln', ?_, fin wt' ln' e2 e3⟩
      rw [i0] at c
      rw [e1, show opn g ln' (d + 1) w = 1 + opn g ln' d (w + 1) from by
        show (if 0 < (g w).toInt ∧ ln' w = -4 then 1 else 0) + opn g ln' d (w + 1) = _
        rw [if_pos ⟨by omega, by rw [(e2 w (by omega)).2, u_eq rfl]⟩], Nat.add_assoc]
/-- the free signs and by what they multiply -/
def FI (fb : Int32) (r : Nat → Int32) (kd : Int32) (p q W : Nat) (free fac' : Nat → Int32) (s : Nat) : Prop := ∀ t, t < s → ¬ hasB fb (nI t) → free (cnt fb t) = nI t ∧ ∀ w, w < W → fac' (cnt fb t * 8 + w) = fac r kd w t p q
theorem ff_in {kd : Int32} {s c p q : Nat} {K : (Nat → Int32) → Option ((Nat → Int32) × (Nat → Int32) × Int32)} (hB : RB W L A com len par lik fb hb pr r) (hp : p ≤ 5) (hq : q ≤ 4) (hs : s < 9 + L) (hc : c < 15) : ∀ (d fuel w : Nat) (fc : Nat → Int32), d = W - w → w ≤ W → d < fuel → ∃ fc', LX5_findFree_42 kd (nI s) (nI W) (nI c) len par lik (nI (10 * p + q)) K fuel (nI w) fc = K fc' ∧ (∀ j, j < c * 8 + w → fc' j = fc j) ∧ ∀ v, w ≤ v → v < W → fc' (c * 8 + v) = fac r kd v s p q := by
  have W8 := hB.1.1
  intro d
  induction d with
  | zero =>
    intro fuel w fc q1 q2 q3
    obtain ⟨f, rfl⟩ : ∃ f, fuel = f + 1 := ⟨fuel - 1, by omega⟩
    rw [LX5_findFree_42, vi_p (show nI W ≤ nI w from by rw [n_le (by omega) (by omega)]; omega)]
    exact ⟨fc, rfl, fun _ _ => rfl, fun v h1 h2 => absurd h2 (by omega)⟩
  | succ d ih =>
    intro fuel w fc q1 q2 q3
    obtain ⟨f, rfl⟩ : ∃ f, fuel = f + 1 := ⟨fuel - 1, by omega⟩
    rw [LX5_findFree_42, vi_n (show ¬ nI W ≤ nI w from by rw [n_le (by omega) (by omega)]; omega), sX0_habit, v_b, e_fac0 hB (by omega) hs hp hq, v_b, n_mul, nI_add, v_g (by omega) (by omega), v_l, v_l, n_cl (by omega), nI_add]
    obtain ⟨fc', e1, e2, e3⟩ := ih f (w + 1) (upd fc (c * 8 + w) (fac r kd w s p q)) (by omega) (by omega) (by omega)
    refine ⟨fc', e1, fun j hj => ?_, fun v h1 h2 => ?_⟩
    · rw [e2 j (by omega), u_ne (by omega)]
    · by_cases e : v = w
      · rw [e, e2 _ (by omega), u_eq rfl]
      · exact e3 v (by omega) h2
set_option maxHeartbeats 2000000 in
theorem ff_loop {kd : Int32} {p q : Nat} (hB : RB W L A com len par lik fb hb pr r) (hp : p ≤ 5) (hq : q ≤ 4) : ∀ (d fuel s : Nat) (fr fc : Nat → Int32), d = 9 + L - s → s ≤ 9 + L → d < fuel → FI fb r kd p q W fr fc s → ∃ fr' fc', LX5_findFree_7 kd (nI W) len par lik (nI L) fb (nI (10 * p + q)) fuel (nI s) fr fc (nI (cnt fb s)) = some (fr', fc', nI (cnt fb (9 + L))) ∧ FI fb r kd p q W fr' fc' (9 + L) := by
  have W8 := hB.1.1
  have L6 := hB.1.2.1
  intro d
  induction d with
  | zero =>
    intro fuel s fr fc q1 q2 q3 q4
    obtain ⟨f, rfl⟩ : ∃ f, fuel = f + 1 := ⟨fuel - 1, by omega⟩
    obtain rfl : s = 9 + L := by omega
    rw [LX5_findFree_7, sX0_signs, nI_add, v_b, vi_p (show nI (9 + L) ≤ nI (9 + L) from by rw [n_le (by omega) (by omega)]; omega)]
    exact ⟨fr, fc, rfl, q4⟩
  | succ d ih =>
    intro fuel s fr fc q1 q2 q3 q4
    obtain ⟨f, rfl⟩ : ∃ f, fuel = f + 1 := ⟨fuel - 1, by omega⟩
    have hcs := cnt_le fb s
    rw [LX5_findFree_7, sX0_signs, nI_add, v_b, vi_n (show ¬ nI (9 + L) ≤ nI s from by rw [n_le (by omega) (by omega)]; omega), vi_n (show ¬ nI 15 ≤ nI s from by rw [n_le (by omega) (by omega)]; omega), sX0_isForbidden]
    by_cases c : hasB fb (nI s)
    · rw [vi_p c, v_b, vi_n n10, v_l, nI_add, ← cnt_t c]
      refine ih f (s + 1) fr fc (by omega) (by omega) (by omega) (fun t ht hf => ?_)
      have : ¬ t = s := fun e => hf (by rw [e]; exact c)
      exact q4 t (by omega) hf
    · rw [vi_n c, v_b, vi_p nI_0, v_g (by omega) (by omega), v_l, n_cl (show cnt fb s < 2147483648 by omega)]
      obtain ⟨fc', e1, e2, e3⟩ := ff_in (K := fun (v15 : Nat → Int32) => vlet (nI (cnt fb s) + nI 1) fun y16 => vlet (nI s + nI 1) fun y17 => LX5_findFree_7 kd (nI W) len par lik (nI L) fb (nI (10 * p + q)) f y17 (upd fr (cnt fb s) (nI s)) v15 y16) (kd := kd) hB hp hq (show s < 9 + L by omega) (show cnt fb s < 15 by omega) W vF 0 fc rfl (by omega) (by show W < 20000; omega)
      rw [e1, v_l, v_l, nI_add, nI_add, ← cnt_f c]
      refine ih f (s + 1) _ fc' (by omega) (by omega) (by omega) (fun t ht hf => ?_)
      by_cases e : t = s
      · subst e
        exact ⟨u_eq rfl, fun w hw => e3 w (by omega) hw⟩
      · have hct := cnt_lt (show t < s by omega) hf
        obtain ⟨g1, g2⟩ := q4 t (by omega) hf
        exact ⟨by rw [u_ne (by omega)]; exact g1, fun w hw => by rw [e2 _ (by omega)]; exact g2 w hw⟩
theorem mul_loop {fc : Nat → Int32} {l c : Nat} (hW : W ≤ 8) (hl : l ≤ 2) (hc : c < 15) : ∀ (d fuel w : Nat) (wt : Nat → Int32), d = W - w → w ≤ W → d < fuel → ∃ wt', LX5_multiply_60 (nI (l * 8)) (nI (l * 8 + 8)) (nI (c * 8)) fc (nI W) fuel (nI w) wt = some wt' ∧ (∀ j, j < l * 8 + 8 + w → wt' j = wt j) ∧ ∀ v, w ≤ v → v < W → wt' (l * 8 + 8 + v) = wt (l * 8 + v) * fc (c * 8 + v) := by
  intro d
  induction d with
  | zero =>
    intro fuel w wt q1 q2 q3
    obtain ⟨f, rfl⟩ : ∃ f, fuel = f + 1 := ⟨fuel - 1, by omega⟩
    rw [LX5_multiply_60, vi_p (show nI W ≤ nI w from by rw [n_le (by omega) (by omega)]; omega)]
    exact ⟨wt, rfl, fun _ _ => rfl, fun v h1 h2 => absurd h2 (by omega)⟩
  | succ d ih =>
    intro fuel w wt q1 q2 q3
    obtain ⟨f, rfl⟩ : ∃ f, fuel = f + 1 := ⟨fuel - 1, by omega⟩
    rw [LX5_multiply_60, vi_n (show ¬ nI W ≤ nI w from by rw [n_le (by omega) (by omega)]; omega)]
    simp (disch := omega) only [nI_add, v_g, n_cl, v_l]
    obtain ⟨wt', e1, e2, e3⟩ := ih f (w + 1) (upd wt (l * 8 + 8 + w) (wt (l * 8 + w) * fc (c * 8 + w))) (by omega) (by omega) (by omega)
    refine ⟨wt', e1, fun j hj => ?_, fun v h1 h2 => ?_⟩
    · rw [e2 j (by omega), u_ne (by omega)]
    · by_cases e : v = w
      · rw [e, e2 _ (by omega), u_eq rfl]
      · rw [e3 v (by omega) h2, u_ne (by omega)]
theorem e_mul {fc wt : Nat → Int32} {l c : Nat} (hW : W ≤ 8) (hl : l ≤ 2) (hc : c < 15) : ∃ wt', sX5_multiply fc wt (nI W) (nI l) (nI c) = some wt' ∧ (∀ j, j < l * 8 + 8 → wt' j = wt j) ∧ ∀ v, v < W → wt' (l * 8 + 8 + v) = wt (l * 8 + v) * fc (c * 8 + v) := by
  unfold sX5_multiply
  simp (disch := omega) only [v_b, v_l, v_i, v_g1, v_g, v_z0, v_z1, v_zif, nI_add, n_mul, n_sub, n_cl, n_le, n_lt, n_eq, n_eq0, n_le0, n_lt0, n_eqm, n_meq0, n_lem, z_add, v_t, v_f, Nat.reduceMul, Nat.reduceAdd, Nat.zero_add, Nat.add_zero, Nat.sub_zero, if_pos, if_neg]
  obtain ⟨wt', e1, e2, e3⟩ := mul_loop (fc := fc) hW hl hc W vF 0 wt rfl (by omega) (by show W < 20000; omega)
  exact ⟨wt', e1, fun j hj => e2 j (by omega), fun v hv => e3 v (by omega) hv⟩
theorem t47 {fc : Nat → Int32} {m c : Nat} {K : (Nat → Int32) → (Nat → Int32) → Option ((Nat → Int32) × (Nat → Int32) × (Nat → Int32) × (Nat → Int32) × Int32)} (hW : W ≤ 8) (h1 : 1 ≤ m) (hm : m ≤ 3) (hc : c < 15) : ∀ (d fuel k : Nat) (wt row : Nat → Int32), d = m - k → k ≤ m → d < fuel → ∃ wt' row', LX5_tryRows_47 (nI (m - 1)) (nI c) fc (nI W) K fuel (nI k) wt row = K wt' row' ∧ (∀ j, j < k → row' j = row j) ∧ (∀ j, k ≤ j → j < m → row' j = nI c) ∧ (∀ j, j < k * 8 + 8 → wt' j = wt j) ∧ ∀ l, k ≤ l → l < m → ∀ v, v < W → wt' (l * 8 + 8 + v) = wt' (l * 8 + v) * fc (c * 8 + v) := by
  intro d
  induction d with
  | zero =>
    intro fuel k wt row q1 q2 q3
    obtain ⟨f, rfl⟩ : ∃ f, fuel = f + 1 := ⟨fuel - 1, by omega⟩
    rw [LX5_tryRows_47, vi_p (show nI (m - 1) < nI k from by rw [n_lt (by omega) (by omega)]; omega)]
    exact ⟨wt, row, rfl, fun _ _ => rfl, fun j h1 h2 => absurd h2 (by omega), fun _ _ => rfl, fun l h1 h2 => absurd h2 (by omega)⟩
  | succ d ih =>
    intro fuel k wt row q1 q2 q3
    obtain ⟨f, rfl⟩ : ∃ f, fuel = f + 1 := ⟨fuel - 1, by omega⟩
    obtain ⟨w1, e1, e2, e3⟩ := e_mul (fc := fc) (wt := wt) (l := k) (c := c) hW (by omega) hc
    rw [LX5_tryRows_47, vi_n (show ¬ nI (m - 1) < nI k from by rw [n_lt (by omega) (by omega)]; omega), v_g (by omega) (by omega), v_l, n_cl (by omega), e1, v_b, v_l, nI_add]
    obtain ⟨wt', row', g1, g2, g3, g4, g5⟩ := ih f (k + 1) w1 (upd row k (nI c)) (by omega) (by omega) (by omega)
    refine ⟨wt', row', g1, fun j hj => ?_, fun j h1 h2 => ?_, fun j hj => ?_, fun l h1 h2 v hv => ?_⟩
    · rw [g2 j (by omega), u_ne (by omega)]
    · by_cases e : j = k
      · rw [g2 j (by omega), u_eq e]
      · exact g3 j (by omega) h2
    · rw [g4 j (by omega), e2 j hj]
    · by_cases e : l = k
      · subst e
        rw [g4 _ (by omega), g4 _ (by omega), e3 v hv, e2 _ (by omega)]
      · exact g5 l (by omega) h2 v hv
theorem rowW_s {kd : Int32} {p q : Nat} {ws : Nat → Int32} {ρ : Nat → Nat} (l v : Nat) : rowW r kd p q ws (l + 1) ρ v = rowW r kd p q ws l ρ v * fac r kd v (ρ l) p q := by
  unfold rowW
  rw [sgL_snoc, List.foldl_append, Nat.zero_add]
  rfl
/-! what a row finds -/
theorem h35 {wt : Nat → Int32} {m : Nat} (hW : W ≤ 8) (hm : m ≤ 3) : ∀ (d fuel w : Nat) (b : Option Nat), d = W - w → w ≤ W → d < fuel → LX5_heaviest_35 (nI (m * 8)) wt (nI W) fuel (enc b) (top (fun v => wt (m * 8 + v)) b) (nI w) = some (enc (gb (fun v => wt (m * 8 + v)) d w b)) := by
  intro d
  induction d with
  | zero =>
    intro fuel w b q1 q2 q3
    obtain ⟨f, rfl⟩ : ∃ f, fuel = f + 1 := ⟨fuel - 1, by omega⟩
    rw [LX5_heaviest_35, vi_p (show nI W ≤ nI w from by rw [n_le (by omega) (by omega)]; omega)]
    rfl
  | succ d ih =>
    intro fuel w b q1 q2 q3
    obtain ⟨f, rfl⟩ : ∃ f, fuel = f + 1 := ⟨fuel - 1, by omega⟩
    rw [LX5_heaviest_35, vi_n (show ¬ nI W ≤ nI w from by rw [n_le (by omega) (by omega)]; omega), nI_add, v_g (by omega) (by omega), v_g (by omega) (by omega), n_cl (by omega)]
    simp only [v_l, nI_add]
    cases b with
    | none =>
      show _ = some (enc (gb (fun v => wt (m * 8 + v)) d (w + 1) _))
      dsimp only
      by_cases q : 0 < (wt (m * 8 + w)).toInt
      · rw [if_pos q, vi_n (show ¬ wt (m * 8 + w) ≤ top (fun v => wt (m * 8 + v)) none from by rw [i_le]; show ¬ (wt (m * 8 + w)).toInt ≤ (nI 0).toInt; rw [i_nI _ (by decide)]; omega)]
        exact ih f (w + 1) (some w) (by omega) (by omega) (by omega)
      · rw [if_neg q, vi_p (show wt (m * 8 + w) ≤ top (fun v => wt (m * 8 + v)) none from by rw [i_le]; show (wt (m * 8 + w)).toInt ≤ (nI 0).toInt; rw [i_nI _ (by decide)]; omega)]
        exact ih f (w + 1) none (by omega) (by omega) (by omega)
    | some v =>
      show _ = some (enc (gb (fun v => wt (m * 8 + v)) d (w + 1) _))
      dsimp only
      by_cases q : (wt (m * 8 + v)).toInt < (wt (m * 8 + w)).toInt
      · rw [if_pos q, vi_n (show ¬ wt (m * 8 + w) ≤ top (fun v => wt (m * 8 + v)) (some v) from by rw [i_le]; show ¬ (wt (m * 8 + w)).toInt ≤ (wt (m * 8 + v)).toInt; omega)]
        exact ih f (w + 1) (some w) (by omega) (by omega) (by omega)
      · rw [if_neg q, vi_p (show wt (m * 8 + w) ≤ top (fun v => wt (m * 8 + v)) (some v) from by rw [i_le]; show (wt (m * 8 + w)).toInt ≤ (wt (m * 8 + v)).toInt; omega)]
        exact ih f (w + 1) (some v) (by omega) (by omega) (by omega)
theorem e_h5 {wt : Nat → Int32} {m : Nat} (hW : W ≤ 8) (hm : m ≤ 3) : sX5_heaviest wt (nI W) (nI m) = some (enc (gb (fun v => wt (m * 8 + v)) W 0 none)) := by
  unfold sX5_heaviest
  simp (disch := omega) only [v_b, v_l, v_i, v_g1, v_g, v_z0, v_z1, v_zif, nI_add, n_mul, n_sub, n_cl, n_le, n_lt, n_eq, n_eq0, n_le0, n_lt0, n_eqm, n_meq0, n_lem, z_add, v_t, v_f, Nat.reduceMul, Nat.reduceAdd, Nat.zero_add, Nat.add_zero, Nat.sub_zero, if_pos, if_neg]
  exact h35 hW hm W vF 0 none rfl (by omega) (by show W < 20000; omega)
theorem e_freeAt {fr fc : Nat → Int32} {kd : Int32} {p q t : Nat} (hL : L ≤ 6) (hF : FI fb r kd p q W fr fc (9 + L)) (ht : t < 9 + L) (hf : ¬ hasB fb (nI t)) : sX5_freeAt fr (nI (cnt fb (9 + L))) (nI (cnt fb t)) = some (nI t) := by
  have h1 := cnt_lt ht hf
  have h2 := cnt_le fb (9 + L)
  unfold sX5_freeAt
  rw [vi_n (show ¬ nI (cnt fb t) < 0 from nI_pos (by omega)), vi_n (show ¬ nI (cnt fb (9 + L)) ≤ nI (cnt fb t) from by rw [n_le (by omega) (by omega)]; omega), vi_n (show ¬ nI 15 ≤ nI (cnt fb t) from by rw [n_le (by omega) (by omega)]; omega), v_g (by omega) (by omega), n_cl (by omega), (hF t ht hf).1]
theorem j39 {fr fc row ln : Nat → Int32} {kd o : Int32} {p q m b : Nat} {ρ : Nat → Nat} (hL : L ≤ 6) (hF : FI fb r kd p q W fr fc (9 + L)) (ho : okR fb (9 + L) m ρ) (hr : ∀ j, j < m → row j = nI (cnt fb (ρ j))) (hm : m ≤ 3) (hb : b < 8) : ∀ (d fuel k : Nat) (sg : Nat → Int32), d = m - k → k ≤ m → d < fuel → ∃ sg', LX5_judge_39 (nI m) (nI b) fr row ln (nI (cnt fb (9 + L))) o fuel (nI k) sg = some (ln, sg', o - nI 1) ∧ (∀ j, ¬ (b * 3 ≤ j ∧ j < b * 3 + 3) → sg' j = sg j) ∧ (∀ j, j < k → sg' (b * 3 + j) = sg (b * 3 + j)) ∧ ∀ j, k ≤ j → j < m → sg' (b * 3 + j) = nI (ρ j) := by
  intro d
  induction d with
  | zero =>
    intro fuel k sg q1 q2 q3
    obtain ⟨f, rfl⟩ : ∃ f, fuel = f + 1 := ⟨fuel - 1, by omega⟩
    rw [LX5_judge_39, vi_p (show nI m ≤ nI k from by rw [n_le (by omega) (by omega)]; omega), v_l]
    exact ⟨sg, rfl, fun _ _ => rfl, fun _ _ => rfl, fun j h1 h2 => absurd h2 (by omega)⟩
  | succ d ih =>
    intro fuel k sg q1 q2 q3
    obtain ⟨f, rfl⟩ : ∃ f, fuel = f + 1 := ⟨fuel - 1, by omega⟩
    obtain ⟨o1, o2⟩ := ho k (by omega)
    rw [LX5_judge_39, vi_n (show ¬ nI m ≤ nI k from by rw [n_le (by omega) (by omega)]; omega), vi_n (show ¬ nI 3 ≤ nI k from by rw [n_le (by omega) (by omega)]; omega), v_g (by omega) (by omega), n_cl (show k < 2147483648 by omega), hr k (by omega), e_freeAt hL hF o1 o2, v_b, n_mul, nI_add, v_g (by omega) (by omega), v_l, v_l, n_cl (by omega), nI_add]
    obtain ⟨sg', e1, e2, e3, e4⟩ := ih f (k + 1) (upd sg (b * 3 + k) (nI (ρ k))) (by omega) (by omega) (by omega)
    refine ⟨sg', e1, fun j hj => ?_, fun j hj => ?_, fun j h1 h2 => ?_⟩
    · rw [e2 j hj, u_ne (by omega)]
    · rw [e3 j (by omega), u_ne (by omega)]
    · by_cases e : j = k
      · subst e
        rw [e3 j (by omega), u_eq rfl]
      · exact e4 j (by omega) h2
set_option maxHeartbeats 2000000 in
theorem e_judge {fr fc row ln sg wt ws : Nat → Int32} {kd : Int32} {p q m : Nat} {ρ : Nat → Nat} (hW : W ≤ 8) (hL : L ≤ 6) (hF : FI fb r kd p q W fr fc (9 + L)) (ho : okR fb (9 + L) m ρ) (hr : ∀ j, j < m → row j = nI (cnt fb (ρ j))) (hm : m ≤ 3) (hw : ∀ v, v < W → wt (m * 8 + v) = rowW r kd p q ws m ρ v) (hN : ∀ v, v < W → 0 < (ws v).toInt ∨ ws v = nI 0) : ∃ ln' sg', sX5_judge fr wt row ln sg (nI W) (nI (cnt fb (9 + L))) (nI (opn ws ln W 0)) (nI m) = some (ln', sg', nI (opn ws ln' W 0)) ∧ ∀ v, v < W → ((ln v = -4 ∧ hitF r kd p q W ws m ρ = some v) ∧ ln' v = nI m ∧ ∀ k, k < m → sg' (v * 3 + k) = nI (ρ k)) ∨ (¬ (ln v = -4 ∧ hitF r kd p q W ws m ρ = some v) ∧ ln' v = ln v ∧ ∀ k, k < 3 → sg' (v * 3 + k) = sg (v * 3 + k)) := by
  unfold sX5_judge
  rw [e_h5 hW hm, v_b, gb_congr (g' := rowW r kd p q ws m ρ) W 0 none (fun v hv => hw v (by omega)) (fun v e => by cases e), show gb (rowW r kd p q ws m ρ) W 0 none = hitF r kd p q W ws m ρ from rfl]
  have hcF := cnt_le fb (9 + L)
  cases hc : hitF r kd p q W ws m ρ with
  | none =>
    rw [vi_p (show enc none < 0 from by decide)]
    exact ⟨ln, sg, rfl, fun v hv => Or.inr ⟨fun e => (by cases e.2), rfl, fun _ _ => rfl⟩⟩
  | some b =>
    have hb := (hit_lt hc).1
    rw [show enc (some b) = nI b from rfl, vi_n (show ¬ nI b < 0 from nI_pos (by omega)), vi_n (show ¬ nI W ≤ nI b from by rw [n_le (by omega) (by omega)]; omega), v_g (by omega) (by omega), n_cl (by omega)]
    by_cases c : ln b = -4
    · have hg : 0 < (ws b).toInt := by
        rcases hN b hb with h | h
        · exact h
        · exact absurd hc (hit_pos h)
      obtain ⟨sg', e1, e2, e3, e4⟩ := j39 (ln := upd ln b (nI m)) (o := nI (opn ws ln W 0)) hL hF ho hr hm (show b < 8 by omega) m vF 0 sg rfl (by omega) (by show m < 20000; omega)
      have ho2 := (opn_upd (x := nI m) hg c (m4 (by omega)) W 0).2 (by omega) (by omega)
      rw [vi_p c, v_g (by omega) (by omega), v_l, e1, n_sub (by omega), show opn ws ln W 0 - 1 = opn ws (upd ln b (nI m)) W 0 by omega]
      refine ⟨_, sg', rfl, fun v hv => ?_⟩
      by_cases e : v = b
      · subst e
        exact Or.inl ⟨⟨c, rfl⟩, u_eq rfl, fun k hk => e4 k (by omega) hk⟩
      · exact Or.inr ⟨fun g => e (by cases g.2; rfl), u_ne e, fun k hk => e2 _ (by omega)⟩
    · rw [vi_n c]
      exact ⟨ln, sg, rfl, fun v hv => Or.inr ⟨fun e => c (by cases e.2; exact e.1), rfl, fun _ _ => rfl⟩⟩
theorem t83 {row : Nat → Int32} {m : Nat} {ρ : Nat → Nat} {K : Int32 → Option ((Nat → Int32) × (Nat → Int32) × (Nat → Int32) × (Nat → Int32) × Int32)} (hL : L ≤ 6) (hm : m ≤ 3) (ho : okR fb (9 + L) m ρ) (hr : ∀ j, j < m → row j = nI (cnt fb (ρ j))) : ∀ (k1 fuel : Nat), k1 ≤ m → k1 < fuel → (nr fb (9 + L) ρ k1 = none ∧ LX5_tryRows_83 row (nI (cnt fb (9 + L))) K fuel (nI k1 - nI 1) = K (nI 0 - nI 1)) ∨ ∃ k t, nr fb (9 + L) ρ k1 = some (k, t) ∧ LX5_tryRows_83 row (nI (cnt fb (9 + L))) K fuel (nI k1 - nI 1) = K (nI k) := by
  intro k1
  induction k1 with
  | zero =>
    intro fuel q1 q2
    obtain ⟨f, rfl⟩ : ∃ f, fuel = f + 1 := ⟨fuel - 1, by omega⟩
    rw [LX5_tryRows_83, vi_p p_neg]
    exact Or.inl ⟨rfl, rfl⟩
  | succ k ih =>
    intro fuel q1 q2
    obtain ⟨f, rfl⟩ : ∃ f, fuel = f + 1 := ⟨fuel - 1, by omega⟩
    obtain ⟨o1, o2⟩ := ho k (by omega)
    obtain ⟨n1, -, -⟩ := nx_next o1 o2
    have h1 := cnt_lt o1 o2
    have h2 := cnt_le fb (9 + L)
    rw [LX5_tryRows_83, p_suc, vi_n (show ¬ nI k < 0 from nI_pos (by omega)), v_g (by omega) (by omega), n_cl (by omega), hr k (by omega), nI_add]
    by_cases c : nx fb (9 + L - (ρ k + 1)) (ρ k + 1) < 9 + L
    · rw [vi_p (show nI (cnt fb (ρ k) + 1) < nI (cnt fb (9 + L)) from by rw [n_lt (by omega) (by omega)]; exact n1.mpr c)]
      exact Or.inr ⟨k, _, if_pos c, rfl⟩
    · rw [vi_n (show ¬ nI (cnt fb (ρ k) + 1) < nI (cnt fb (9 + L)) from by rw [n_lt (by omega) (by omega)]; exact fun e => c (n1.mp e)), v_l, pm1, show nr fb (9 + L) ρ (k + 1) = nr fb (9 + L) ρ k from if_neg c]
      exact ih f (by omega) (by omega)
/-- what the rows of one length find for a word -/
def found (ln ln' sg sg' : Nat → Int32) (m v : Nat) (o : Option (Nat → Nat)) : Prop := (¬ ln v = -4 → ln' v = ln v ∧ ∀ k, k < 3 → sg' (v * 3 + k) = sg (v * 3 + k)) ∧ (ln v = -4 → (o = none ∧ ln' v = -4) ∨ ∃ ρ, o = some ρ ∧ ln' v = nI m ∧ ∀ k, k < m → sg' (v * 3 + k) = nI (ρ k))
set_option maxHeartbeats 2000000 in
theorem t16 {fr fc ws : Nat → Int32} {kd : Int32} {p q m : Nat} (hW : W ≤ 8) (hL : L ≤ 6) (hF : FI fb r kd p q W fr fc (9 + L)) (h1 : 1 ≤ m) (hm : m ≤ 3) (hN : ∀ v, v < W → 0 < (ws v).toInt ∨ ws v = nI 0) : ∀ (n fuel tried a0 : Nat) (ρ : Nat → Nat) (wt row ln sg : Nat → Int32), n + 1 < fuel → tried + n ≤ 9000 → okR fb (9 + L) m ρ → mu (9 + L) m ρ < n → a0 < m → (∀ j, a0 ≤ j → j < m → ρ j = ρ a0) → (∀ j, j < a0 → row j = nI (cnt fb (ρ j))) → (∀ l, l ≤ a0 → ∀ v, v < W → wt (l * 8 + v) = rowW r kd p q ws l ρ v) → ∃ wt' row' ln' sg', LX5_tryRows_16 (nI m) (nI (m - 1)) fr fc (nI W) (nI (cnt fb (9 + L))) fuel (nI a0) (nI (cnt fb (ρ a0))) (nI tried) wt row ln sg (nI (opn ws ln W 0)) = some (wt', row', ln', sg', nI (opn ws ln' W 0)) ∧ (∀ v, v < W → wt' v = wt v) ∧ ∀ v, v < W → found ln ln' sg sg' m v (scan fb (9 + L) m (hitF r kd p q W ws m) v n (some ρ)) := by
  have hcF := cnt_le fb (9 + L)
  intro n
  induction n with
  | zero => intro fuel tried a0 ρ wt row ln sg q1 q2 q3 q4; omega
  | succ n ih =>
    intro fuel tried a0 ρ wt row ln sg q1 q2 q3 q4 q5 q6 q7 q8
    obtain ⟨f, rfl⟩ : ∃ f, fuel = f + 1 := ⟨fuel - 1, by omega⟩
    obtain ⟨o1, o2⟩ := q3 a0 q5
    have hc1 := cnt_lt o1 o2
    have hop := opn_le ws ln W 0
    rw [LX5_tryRows_16, vi_n (show ¬ nI 10000 ≤ nI tried from by rw [n_le (by omega) (by omega)]; omega), vi_n (show ¬ nI a0 < 0 from nI_pos (by omega)), vi_n (show ¬ nI (cnt fb (9 + L)) ≤ nI (cnt fb (ρ a0)) from by rw [n_le (by omega) (by omega)]; omega)]
    by_cases c0 : opn ws ln W 0 = 0
    · rw [vi_p (show nI (opn ws ln W 0) ≤ 0 from by rw [n_le0 (by omega)]; exact c0)]
      refine ⟨wt, row, ln, sg, rfl, fun _ _ => rfl, fun v hv => ⟨fun _ => ⟨rfl, fun _ _ => rfl⟩, fun e => Or.inl ⟨?_, e⟩⟩⟩
      have hz := opn_0 W 0 c0 v (by omega) (by omega) e
      have hws : ws v = nI 0 := by
        rcases hN v hv with h | h
        · exact absurd h hz
        · exact h
      exact scan_no (fun ρ' => hit_pos hws) _ _
    · rw [vi_n (show ¬ nI (opn ws ln W 0) ≤ 0 from by rw [n_le0 (by omega)]; exact c0)]
      generalize hKK : (fun (v14 : Nat → Int32) (v15 : Nat → Int32) => _ : (Nat → Int32) → (Nat → Int32) → Option ((Nat → Int32) × (Nat → Int32) × (Nat → Int32) × (Nat → Int32) × Int32)) = KK
      obtain ⟨wt1, row1, e1, e2, e3, e4, e5⟩ := t47 (fc := fc) (c := cnt fb (ρ a0)) (K := KK) hW h1 hm (by omega) (m - a0) vF a0 wt row rfl (by omega) (by show m - a0 < 20000; omega)
      rw [e1, ← hKK]
      have hrow1 : ∀ j, j < m → row1 j = nI (cnt fb (ρ j)) := fun j hj => by
        by_cases c : j < a0
        · rw [e2 j c]; exact q7 j c
        · rw [e3 j (by omega) hj, q6 j (by omega) hj]
      have hlev : ∀ l, l ≤ m → ∀ v, v < W → wt1 (l * 8 + v) = rowW r kd p q ws l ρ v := by
        intro l
        induction l with
        | zero => intro _ v hv; rw [e4 _ (by omega)]; exact q8 0 (by omega) v hv
        | succ l ihl =>
          intro hl v hv
          by_cases c : l < a0
          · rw [e4 _ (by omega)]; exact q8 (l + 1) (by omega) v hv
          · have h8 : (l + 1) * 8 + v = l * 8 + 8 + v := by omega
            rw [h8, e5 l (by omega) (by omega) v hv, ihl (by omega) v hv, rowW_s, q6 l (by omega) (by omega), (hF _ o1 o2).2 v hv]
      obtain ⟨ln1, sg1, j1, j2⟩ := e_judge (sg := sg) hW hL hF q3 hrow1 hm (hlev m (Nat.le_refl m)) hN (ln := ln)
      dsimp only
      rw [j1, v_b]
      have hm1 : nI (m - 1) = nI m - nI 1 := by rw [n_sub h1]
      rw [hm1]
      generalize hK2 : (fun (v17 : Int32) => _ : Int32 → Option ((Nat → Int32) × (Nat → Int32) × (Nat → Int32) × (Nat → Int32) × Int32)) = K2
      have hsc : ∀ v, ¬ hitF r kd p q W ws m ρ = some v → scan fb (9 + L) m (hitF r kd p q W ws m) v (n + 1) (some ρ) = scan fb (9 + L) m (hitF r kd p q W ws m) v n (nxt fb (9 + L) m ρ) := fun v h => if_neg h
      have hsc2 : ∀ v, hitF r kd p q W ws m ρ = some v → scan fb (9 + L) m (hitF r kd p q W ws m) v (n + 1) (some ρ) = some ρ := fun v h => if_pos h
      have join : ∀ (ln' sg' : Nat → Int32) (o : Option (Nat → Nat)), nxt fb (9 + L) m ρ = o → (∀ v, v < W → found ln1 ln' sg1 sg' m v (scan fb (9 + L) m (hitF r kd p q W ws m) v n o)) → ∀ v, v < W → found ln ln' sg sg' m v (scan fb (9 + L) m (hitF r kd p q W ws m) v (n + 1) (some ρ)) := by
        intro ln' sg' o ho hfo v hv
        obtain ⟨f1, f2⟩ := hfo v hv
        rcases j2 v hv with ⟨⟨g1, g2⟩, g3, g4⟩ | ⟨g1, g3, g4⟩
        · obtain ⟨k1, k2⟩ := f1 (by rw [g3]; exact m4 (by omega))
          refine ⟨fun e => absurd g1 e, fun _ => Or.inr ⟨ρ, hsc2 v g2, by rw [k1, g3], fun k hk => ?_⟩⟩
          rw [k2 k (by omega), g4 k hk]
        · rw [g3] at f1 f2
          refine ⟨fun e => ?_, fun e => ?_⟩
          · obtain ⟨k1, k2⟩ := f1 e
            exact ⟨k1, fun k hk => by rw [k2 k hk, g4 k hk]⟩
          · rw [hsc v (fun h => g1 ⟨e, h⟩), ho]
            exact f2 e
      rcases t83 (row := row1) (K := K2) hL hm q3 hrow1 m vF (Nat.le_refl m) (by show m < 20000; omega) with ⟨g1, g2⟩ | ⟨k, t, g1, g2⟩
      · rw [g2, ← hK2]
        dsimp only
        obtain ⟨f', rfl⟩ : ∃ f', f = f' + 1 := ⟨f - 1, by omega⟩
        rw [vi_p p_neg, v_l, LX5_tryRows_16, nI_add, vi_n (show ¬ nI 10000 ≤ nI (tried + 1) from by rw [n_le (by omega) (by omega)]; omega), vi_p p_neg]
        refine ⟨wt1, row1, ln1, sg1, rfl, fun v hv => e4 v (by omega), join ln1 sg1 none (by unfold nxt; rw [g1]) (fun v hv => ?_)⟩
        rw [scan_none]
        exact ⟨fun _ => ⟨rfl, fun _ _ => rfl⟩, fun e => Or.inl ⟨rfl, e⟩⟩
      · rw [g2, ← hK2]
        dsimp only
        obtain ⟨k1, k2, k3, k4, k5⟩ := nr_spec q3 m (Nat.le_refl m) k t g1
        have hn : nxt fb (9 + L) m ρ = some (fun j => if k ≤ j then t else ρ j) := by unfold nxt; rw [g1]
        have hmu := mu_nxt (by omega) hm q3 hn
        have hct := cnt_lt k3 k4
        rw [vi_n (show ¬ nI k < 0 from nI_pos (by omega)), v_g (by omega) (by omega), v_l, v_l, n_cl (by omega), hrow1 k (by omega), nI_add, nI_add, ← k5]
        have hkt : (fun j => if k ≤ j then t else ρ j) k = t := if_pos (Nat.le_refl k)
        obtain ⟨wt', row', ln', sg', r1, r2, r3⟩ := ih f (tried + 1) k (fun j => if k ≤ j then t else ρ j) wt1 row1 ln1 sg1 (by omega) (by omega) (nxt_ok q3 hn) (by omega) k1 (fun j j1 j2 => by rw [if_pos j1, if_pos (Nat.le_refl k)]) (fun j hj => by
          rw [hrow1 j (by omega)]
          show _ = nI (cnt fb (if k ≤ j then t else ρ j))
          rw [if_neg (by omega)]) (fun l hl v hv => by
          rw [hlev l (by omega) v hv]
          exact rowW_congr (fun j hj => (if_neg (by omega)).symm) v)
        rw [if_pos (Nat.le_refl k), hm1] at r1
        rw [r1]
        refine ⟨wt', row', ln', sg', rfl, fun v hv => by rw [r2 v hv]; exact e4 v (by omega), join ln' sg' _ hn r3⟩
theorem e_try {fr fc ws : Nat → Int32} {kd : Int32} {p q m : Nat} (wt row ln sg : Nat → Int32) (hW : W ≤ 8) (hL : L ≤ 6) (hF : FI fb r kd p q W fr fc (9 + L)) (h1 : 1 ≤ m) (hm : m ≤ 3) (hN : ∀ v, v < W → 0 < (ws v).toInt ∨ ws v = nI 0) (hw : ∀ v, v < W → wt v = ws v) : ∃ wt' row' ln' sg', sX5_tryRows fr fc wt row ln sg (nI W) (nI (cnt fb (9 + L))) (nI (opn ws ln W 0)) (nI m) = some (wt', row', ln', sg', nI (opn ws ln' W 0)) ∧ (∀ v, v < W → wt' v = wt v) ∧ ∀ v, v < W → found ln ln' sg sg' m v (scan fb (9 + L) m (hitF r kd p q W ws m) v 5000 (frst fb (9 + L) m)) := by
  have hcF := cnt_le fb (9 + L)
  unfold sX5_tryRows
  rw [if_neg (show ¬ nI 3 < nI m from by rw [n_lt (by omega) (by omega)]; omega), n_sub h1, v_l]
  obtain ⟨n1, n2, n3, n4⟩ := nx_spec fb (9 + L) (9 + L) 0 (by omega)
  by_cases c : nx fb (9 + L) 0 < 9 + L
  · have hf : frst fb (9 + L) m = some (fun _ => nx fb (9 + L) 0) := if_pos (Or.inr c)
    obtain ⟨wt', row', ln', sg', r1, r2, r3⟩ := t16 hW hL hF h1 hm hN 5000 vF 0 0 (fun _ => nx fb (9 + L) 0) wt row ln sg (by decide) (by omega) (frst_ok hf) (mu_le _ (by omega)) (by omega) (fun _ _ _ => rfl) (fun j hj => absurd hj (by omega)) (fun l hl v hv => by
      obtain rfl : l = 0 := by omega
      rw [show 0 * 8 + v = v by omega, hw v hv]
      rfl)
    rw [n4] at r1
    rw [hf]
    exact ⟨wt', row', ln', sg', r1, r2, r3⟩
  · have e : nx fb (9 + L) 0 = 9 + L := by omega
    rw [e] at n4
    rw [show cnt fb 0 = 0 from rfl] at n4
    have hf : frst fb (9 + L) m = none := if_neg (by omega)
    rw [show vF = 19999 + 1 from rfl, LX5_tryRows_16, vi_n (show ¬ nI 10000 ≤ nI 0 from by rw [n_le (by omega) (by omega)]; omega), vi_n (show ¬ nI 0 < 0 from nI_pos (by omega)), n4, vi_p (show nI 0 ≤ nI 0 from by rw [n_le (by omega) (by omega)]; omega), hf]
    refine ⟨wt, row, ln, sg, rfl, fun _ _ => rfl, fun v hv => ?_⟩
    rw [scan_none]
    exact ⟨fun _ => ⟨rfl, fun _ _ => rfl⟩, fun e => Or.inl ⟨rfl, e⟩⟩
theorem r40 {fr fc ws : Nat → Int32} {kd : Int32} {p q lg : Nat} (hW : W ≤ 8) (hL : L ≤ 6) (hF : FI fb r kd p q W fr fc (9 + L)) (hlg : lg ≤ 3) (hN : ∀ v, v < W → 0 < (ws v).toInt ∨ ws v = nI 0) : ∀ (d fuel m : Nat) (wt row ln sg : Nat → Int32), d = lg + 1 - m → 1 ≤ m → m ≤ lg + 1 → d < fuel → (∀ v, v < W → wt v = ws v) → ∃ wt' row' ln' sg' o', LX5_run_40 (nI lg) fr fc (nI W) (nI (cnt fb (9 + L))) fuel (nI m) wt row ln sg (nI (opn ws ln W 0)) = some (fr, fc, wt', row', ln', sg', nI W, nI (cnt fb (9 + L)), o') ∧ ∀ v, v < W → (¬ ln v = -4 → ln' v = ln v ∧ ∀ k, k < 3 → sg' (v * 3 + k) = sg (v * 3 + k)) ∧ (ln v = -4 → (few fb (9 + L) (hitF r kd p q W ws) v d m = none ∧ ln' v = -4) ∨ ∃ m' ρ, m' ≤ 3 ∧ few fb (9 + L) (hitF r kd p q W ws) v d m = some (m', ρ) ∧ ln' v = nI m' ∧ ∀ k, k < m' → sg' (v * 3 + k) = nI (ρ k)) := by
  intro d
  induction d with
  | zero =>
    intro fuel m wt row ln sg q1 q2 q3 q4 q5
    obtain ⟨f, rfl⟩ : ∃ f, fuel = f + 1 := ⟨fuel - 1, by omega⟩
    rw [LX5_run_40, vi_p (show nI lg < nI m from by rw [n_lt (by omega) (by omega)]; omega)]
    exact ⟨wt, row, ln, sg, _, rfl, fun v hv => ⟨fun _ => ⟨rfl, fun _ _ => rfl⟩, fun e => Or.inl ⟨rfl, e⟩⟩⟩
  | succ d ih =>
    intro fuel m wt row ln sg q1 q2 q3 q4 q5
    obtain ⟨f, rfl⟩ : ∃ f, fuel = f + 1 := ⟨fuel - 1, by omega⟩
    rw [LX5_run_40, vi_n (show ¬ nI lg < nI m from by rw [n_lt (by omega) (by omega)]; omega)]
    obtain ⟨wt1, row1, ln1, sg1, t1, t2, t3⟩ := e_try wt row ln sg hW hL hF q2 (show m ≤ 3 by omega) hN q5
    rw [t1, v_b, v_l, nI_add]
    obtain ⟨wt', row', ln', sg', o', g1, g2⟩ := ih f (m + 1) wt1 row1 ln1 sg1 (by omega) (by omega) (by omega) (by omega) (fun v hv => by rw [t2 v hv]; exact q5 v hv)
    refine ⟨wt', row', ln', sg', o', g1, fun v hv => ?_⟩
    obtain ⟨f1, f2⟩ := t3 v hv
    obtain ⟨k1, k2⟩ := g2 v hv
    have hfew : few fb (9 + L) (hitF r kd p q W ws) v (d + 1) m = match scan fb (9 + L) m (hitF r kd p q W ws m) v 5000 (frst fb (9 + L) m) with | some ρ => some (m, ρ) | none => few fb (9 + L) (hitF r kd p q W ws) v d (m + 1) := rfl
    refine ⟨fun e => ?_, fun e => ?_⟩
    · obtain ⟨a1, a2⟩ := f1 e
      obtain ⟨b1, b2⟩ := k1 (by rw [a1]; exact e)
      exact ⟨by rw [b1, a1], fun k hk => by rw [b2 k hk, a2 k hk]⟩
    · rcases f2 e with ⟨a1, a2⟩ | ⟨ρ, a1, a2, a3⟩
      · rw [hfew, a1]
        exact k2 a2
      · obtain ⟨b1, b2⟩ := k1 (by rw [a2]; exact m4 (by omega))
        rw [hfew, a1]
        exact Or.inr ⟨m, ρ, by omega, rfl, by rw [b1, a2], fun k hk => by rw [b2 k (by omega), a3 k hk]⟩
end SEARCH

/-! values: FEWEST, WANTS, MOST -/
section FEWEST
variable {W L A : Nat} {com len par lik : Nat → Int32} {fb hb pr : Int32} {r sc gn : Nat → Int32} {a kd x co sh gu st p q : Nat} {sg : Nat → Nat}
/-- FEWEST of an actor for a word -/
def fewA (r : Nat → Int32) (fb : Int32) (W L kd p q gu sh : Nat) (sg : Nat → Nat) (w : Nat) : Option (Nat × (Nat → Nat)) := few fb (9 + L) (hitF r (nI kd) p q W (wA r kd p q gu sh sg)) w (min 4 (6 - sh)) 0
theorem wA_N (hB : RB W L A com len par lik fb hb pr r) (hp : p ≤ 5) (hq : q ≤ 4) (hsh : sh ≤ 5) {v : Nat} (hv : v < W) : 0 < (wA r kd p q gu sh sg v).toInt ∨ wA r kd p q gu sh sg v = nI 0 := by
  obtain ⟨c1, _, _, y, y1, y2, y3⟩ := hB.2.2.2.2.1 v hv
  obtain ⟨z, z1, z2⟩ := wgt_N (r := r) (kd := nI kd) (gu := nI gu) (w := v) (l := sgL sg sh 0) hp hq (c1.symm.trans y3) y2
  rw [sgL_len] at z1
  have h5 := pow_le sh hsh
  rw [show wA r kd p q gu sh sg v = nI z from z2]
  by_cases c : z = 0
  · exact Or.inr (by rw [c])
  · exact Or.inl (by rw [i_nI _ (by omega)]; omega)
set_option maxHeartbeats 2000000 in
theorem e_run3 (fr fc wt row ln sgs : Nat → Int32) (wo fo op : Int32) (hB : RB W L A com len par lik fb (nI (10 * p + q)) pr r) (hp : p ≤ 5) (hq : q ≤ 4) (ha : a < 5) (hb' : SAb W L kd x co sh gu st sg) (hv : SAv r sc gn a kd x co sh gu st sg) : ∃ z, sX5_run fr fc wt row ln sgs wo fo op com len par lik (nI W) (nI L) fb (nI (10 * p + q)) sc (nI a) = some z ∧ z.2.2.2.2.2.2.1 = nI W ∧ ∀ v, v < W → (fewA r fb W L kd p q gu sh sg v = none ∧ z.2.2.2.2.1 v = -4) ∨ ∃ m ρ, m ≤ 3 ∧ fewA r fb W L kd p q gu sh sg v = some (m, ρ) ∧ z.2.2.2.2.1 v = nI m ∧ ∀ k, k < m → z.2.2.2.2.2.1 (v * 3 + k) = nI (ρ k) := by
  have hB' := hB
  obtain ⟨⟨W8, L6, A5⟩, ⟨h0, h1, h2, h3, h6⟩, -⟩ := hB'
  have hsh := hb'.2.2.2.1
  have hN : ∀ v, v < W → 0 < (wA r kd p q gu sh sg v).toInt ∨ wA r kd p q gu sh sg v = nI 0 := fun v hv => wA_N hB hp hq hsh hv
  unfold sX5_run sX5_weighAtFirst sX0_words sX5_findFree
  rw [v_b, if_neg (show ¬ nI 8 < nI W from by rw [n_lt (by omega) (by omega)]; omega), v_l]
  obtain ⟨wt1, ln1, e1, -, e3⟩ := waf_loop (g := wA r kd p q gu sh sg) W8 (fun w hw => e_wA3 hB hp hq ha hw hb' hv) W vF 0 0 wt ln rfl (by omega) (by show W < 20000; omega) (by omega)
  rw [e1, v_b, e_cell (by omega), v_b, Nat.add_zero, hv.1.1, Nat.zero_add]
  obtain ⟨fr1, fc1, f1, hF⟩ := ff_loop (kd := nI kd) hB hp hq (9 + L) vF 0 fr fc rfl (by omega) (by show 9 + L < 20000; omega) (fun t ht => absurd ht (by omega))
  rw [show cnt fb 0 = 0 from rfl] at f1
  dsimp only
  rw [f1, v_b]
  dsimp only
  obtain ⟨ln2, sg2, j1, j2⟩ := e_judge (wt := wt1) (row := row) (ln := ln1) (sg := sgs) (ws := wA r kd p q gu sh sg) (m := 0) (ρ := fun _ => nx fb (9 + L) 0) W8 L6 hF (fun j hj => absurd hj (by omega)) (fun j hj => absurd hj (by omega)) (by omega) (fun v hv => by rw [show 0 * 8 + v = v by omega, (e3 v (by omega) hv).1]; rfl) hN
  rw [j1, v_b, e_cell (by omega), v_b, hv.2.2.2.1.1, n_sub (by omega), v_l]
  have hlg : (if nI (5 - sh) < nI 3 then nI (5 - sh) else nI 3) = nI (min 4 (6 - sh) - 1) := by
    by_cases c : 5 - sh < 3
    · rw [if_pos (by rw [n_lt (by omega) (by omega)]; exact c), show min 4 (6 - sh) - 1 = 5 - sh by omega]
    · rw [if_neg (by rw [n_lt (by omega) (by omega)]; exact c), show min 4 (6 - sh) - 1 = 3 by omega]
  rw [hlg, v_l]
  dsimp only
  obtain ⟨wt', row', ln', sg', o', g1, g2⟩ := r40 (lg := min 4 (6 - sh) - 1) W8 L6 hF (by omega) hN (min 4 (6 - sh) - 1) vF 1 wt1 row ln2 sg2 (by omega) (by omega) (by omega) (by show min 4 (6 - sh) - 1 < 20000; omega) (fun v hv => (e3 v (by omega) hv).1)
  rw [g1]
  refine ⟨_, rfl, rfl, fun v hv => ?_⟩
  obtain ⟨k1, k2⟩ := g2 v hv
  have hf0 : frst fb (9 + L) 0 = some (fun _ => nx fb (9 + L) 0) := if_pos (Or.inl rfl)
  have hd : min 4 (6 - sh) = min 4 (6 - sh) - 1 + 1 := by omega
  have hfew : fewA r fb W L kd p q gu sh sg v = match scan fb (9 + L) 0 (hitF r (nI kd) p q W (wA r kd p q gu sh sg) 0) v 5000 (frst fb (9 + L) 0) with | some ρ => some (0, ρ) | none => few fb (9 + L) (hitF r (nI kd) p q W (wA r kd p q gu sh sg)) v (min 4 (6 - sh) - 1) 1 := by
    unfold fewA
    rw [hd]
    rfl
  rcases j2 v hv with ⟨⟨a1, a2⟩, a3, a4⟩ | ⟨a1, a3, a4⟩
  · obtain ⟨b1, b2⟩ := k1 (by rw [a3]; exact m4 (by omega))
    refine Or.inr ⟨0, fun _ => nx fb (9 + L) 0, by omega, ?_, by show ln' v = nI 0; rw [b1, a3], fun k hk => absurd hk (by omega)⟩
    rw [hfew, hf0, show scan fb (9 + L) 0 (hitF r (nI kd) p q W (wA r kd p q gu sh sg) 0) v 5000 (some (fun _ => nx fb (9 + L) 0)) = some (fun _ => nx fb (9 + L) 0) from if_pos a2]
  · have hl1 : ln1 v = -4 := (e3 v (by omega) hv).2
    have hs : scan fb (9 + L) 0 (hitF r (nI kd) p q W (wA r kd p q gu sh sg) 0) v 5000 (frst fb (9 + L) 0) = none := by
      rw [hf0, show scan fb (9 + L) 0 (hitF r (nI kd) p q W (wA r kd p q gu sh sg) 0) v 5000 (some (fun _ => nx fb (9 + L) 0)) = scan fb (9 + L) 0 (hitF r (nI kd) p q W (wA r kd p q gu sh sg) 0) v 4999 (nxt fb (9 + L) 0 (fun _ => nx fb (9 + L) 0)) from if_neg (fun e => a1 ⟨hl1, e⟩)]
      exact scan_none
    rw [hfew, hs]
    exact k2 (by rw [a3]; exact hl1)
theorem e_howMany {ln : Nat → Int32} {w : Nat} (hW : W ≤ 8) (hw : w < W) : sX5_howMany ln (nI W) (nI w) = some (ln w) := by
  unfold sX5_howMany
  rw [vi_n (show ¬ nI w < 0 from nI_pos (by omega)), vi_n (show ¬ nI W ≤ nI w from by rw [n_le (by omega) (by omega)]; omega), v_g (by omega) (by omega), n_cl (by omega)]
/-- FEWEST on both sides: how many, and which -/
theorem q_both {w : Nat} (fr fc wt row ln sgs ws tr rw' : Nat → Int32) (wo fo op : Int32) (hB : RB W L A com len par lik fb (nI (10 * p + q)) pr r) (hp : p ≤ 5) (hq : q ≤ 4) (h4 : r 4 = nI p) (h5 : r 5 = nI q) (ha : a < 5) (hw : w < W) (hb' : SAb W L kd x co sh gu st sg) (hv : SAv r sc gn a kd x co sh gu st sg) : ∃ z v ws' tr' row', sX5_run fr fc wt row ln sgs wo fo op com len par lik (nI W) (nI L) fb (nI (10 * p + q)) sc (nI a) = some z ∧ z.2.2.2.2.2.2.1 = nI W ∧ sX9_fewestFor r gn ws tr rw' (nI a) (nI w) = some (v, ws', tr', row') ∧ z.2.2.2.2.1 w = v ∧ (v = -4 ∨ ∃ m, m ≤ 3 ∧ v = nI m ∧ ∀ k, k < m → z.2.2.2.2.2.1 (w * 3 + k) = row' k) := by
  obtain ⟨⟨W8, L6, A5⟩, ⟨h0, h1, h2, h3, h6⟩, -⟩ := id hB
  obtain ⟨z, z1, z2, z3⟩ := e_run3 fr fc wt row ln sgs wo fo op hB hp hq ha hb' hv
  obtain ⟨v, ws', tr', row', v1, v2⟩ := e_few9 (fb := fb) ws tr rw' W8 L6 h0 h1 h3 h4 h5 ha hw hb' hv
  refine ⟨z, v, ws', tr', row', z1, z2, v1, ?_⟩
  rcases z3 w hw with ⟨a1, a2⟩ | ⟨m, ρ, a0, a1, a2, a3⟩
  · rcases v2 with ⟨b1, b2⟩ | ⟨m', ρ', b0, b1, b2, b3⟩
    · exact ⟨by rw [a2, b2], Or.inl b2⟩
    · exact absurd (a1.symm.trans b1) (by intro e; cases e)
  · rcases v2 with ⟨b1, b2⟩ | ⟨m', ρ', b0, b1, b2, b3⟩
    · exact absurd (b1.symm.trans a1) (by intro e; cases e)
    · have e : (m, ρ) = (m', ρ') := Option.some.inj (a1.symm.trans b1)
      cases e
      exact ⟨by rw [a2, b2], Or.inr ⟨m, a0, b2, fun k hk => by rw [a3 k hk, b3 k hk]⟩⟩
set_option maxHeartbeats 2000000 in
theorem q_fewest (fr fc wt row ln sgs ws tr rw' : Nat → Int32) (wo fo op : Int32) (hB : RB W L A com len par lik fb hb pr r) (hS : SR W L A r sc gn) (x y z : Int32) : ∃ u, sX8_fewest com len par lik (nI W) (nI L) (nI A) fb hb sc fr fc wt row ln sgs wo fo op x y z = some u ∧ ∃ w, sX9_fewest r gn ws tr rw' x y z = some w ∧ u.1 = w.1 := by
  obtain ⟨⟨W8, L6, A5⟩, ⟨h0, h1, h2, h3, h6⟩, ⟨p, q, p1, p2, q1, q2, h4, h5, hh⟩, -⟩ := id hB
  subst hh
  unfold sX8_fewest sX9_fewest
  rw [e_isActor3 A5, e_isActor9 A5 h2, e_isWord3 W8, e_isWord9 W8 h0, e_inN z (by decide) (by decide)]
  simp only [v_b]
  by_cases h : 0 ≤ x.toInt ∧ x.toInt < A
  · rw [if_pos h, vi_n n10, vi_n n10]
    by_cases g : 0 ≤ y.toInt ∧ y.toInt < W
    · rw [if_pos g, vi_n n10, vi_n n10]
      by_cases k : ((0 : Nat) : Int) ≤ z.toInt ∧ z.toInt ≤ ((3 : Nat) : Int)
      · rw [if_pos k, vi_n n10, vi_n (show ¬ z < 0 from by rw [i_lt, i_0]; omega), vi_p (show z ≤ nI 3 from by rw [i_le, i_nI _ (by decide)]; omega)]
        obtain ⟨a, ha, rfl⟩ := n_ofN (N := A) h.1 h.2
        obtain ⟨w, hw, rfl⟩ := n_ofN (N := W) g.1 g.2
        obtain ⟨j, hj, rfl⟩ := n_ofN (x := z) (N := 4) (by omega) (by omega)
        obtain ⟨kd, x, co, sh, gu, st, sg, hb', hv⟩ := hS.1 a ha
        rw [e_waits4 (show a < 5 by omega) hb'.2.2.2.2.2.1 hv.2.2.2.2.2.1.1, e_waits9 (show a < 5 by omega) hb'.2.2.2.2.2.1 hv.2.2.2.2.2.1.2, v_b, v_b]
        by_cases c : st = 0
        · rw [if_pos c, vi_n n10, vi_n n10]
          obtain ⟨u, v, ws', tr', row', u1, u2, u3, u4, u5⟩ := q_both fr fc wt row ln sgs ws tr rw' wo fo op hB p2 q2 h4 h5 (show a < 5 by omega) hw hb' hv
          rw [u1, u3, v_b, v_b, u2, e_howMany W8 hw, u4]
          by_cases j0 : j = 0
          · rw [vi_p (show nI j = 0 from by rw [j0]; exact nI_0), vi_p (show nI j = 0 from by rw [j0]; exact nI_0), v_b]
            by_cases e : v = -4
            · rw [vi_p e]; exact ⟨_, rfl, _, rfl, rfl⟩
            · rw [vi_n e]; exact ⟨_, rfl, _, rfl, rfl⟩
          · rw [vi_n (show ¬ nI j = 0 from by rw [n_eq0 (by omega)]; exact j0), vi_n (show ¬ nI j = 0 from by rw [n_eq0 (by omega)]; exact j0), n_sub (by omega)]
            unfold sX5_signOf
            rw [vi_n (show ¬ nI (j - 1) < 0 from nI_pos (by omega)), e_howMany W8 hw, v_b, u4]
            rcases u5 with e | ⟨m, m1, m2, m3⟩
            · rw [vi_p (show v ≤ nI (j - 1) from by rw [e, i_le, i_m4, i_nI _ (by omega)]; omega), v_b, vi_p e]
              exact ⟨_, rfl, _, rfl, e.symm⟩
            · rw [vi_n (show ¬ v = -4 from by rw [m2]; exact m4 (by omega)), m2]
              by_cases e : m < j
              · rw [vi_p (show nI m ≤ nI (j - 1) from by rw [n_le (by omega) (by omega)]; omega), v_b, vi_p (show nI m < nI j from by rw [n_lt (by omega) (by omega)]; exact e)]
                exact ⟨_, rfl, _, rfl, rfl⟩
              · rw [vi_n (show ¬ nI m ≤ nI (j - 1) from by rw [n_le (by omega) (by omega)]; omega), vi_n (show ¬ nI 3 ≤ nI (j - 1) from by rw [n_le (by omega) (by omega)]; omega), vi_n (show ¬ nI m < nI j from by rw [n_lt (by omega) (by omega)]; exact e), n_mul, nI_add, v_g (by omega) (by omega), v_g (by omega) (by omega), v_b, n_cl (by omega), n_cl (by omega)]
                exact ⟨_, rfl, _, rfl, m3 (j - 1) (by omega)⟩
        · rw [if_neg c, vi_p nI_0, vi_p nI_0]
          exact ⟨_, rfl, _, rfl, rfl⟩
      · rw [if_neg k, vi_p nI_0]
        by_cases c : z < 0
        · rw [vi_p c]; exact ⟨_, rfl, _, rfl, rfl⟩
        · rw [vi_n c, vi_n (show ¬ z ≤ nI 3 from by rw [i_lt, i_0] at c; rw [i_le, i_nI _ (by decide)]; omega)]
          exact ⟨_, rfl, _, rfl, rfl⟩
    · rw [if_neg g, vi_p nI_0, vi_p nI_0]
      exact ⟨_, rfl, _, rfl, rfl⟩
  · rw [if_neg h, vi_p nI_0, vi_p nI_0]
    exact ⟨_, rfl, _, rfl, rfl⟩
theorem wants_loop {fr fc wt row ln sgs : Nat → Int32} {fo op : Int32} (hW : W ≤ 8) (h0 : r 0 = nI W) (hln : ∀ w, w < W → ∀ ws tr rw', ∃ v ws' tr' row', sX9_fewestFor r gn ws tr rw' (nI a) (nI w) = some (v, ws', tr', row') ∧ ln w = v) : ∀ (d f1 f2 w : Nat) (b : Int32) (ws tr rw' : Nat → Int32), d = W - w → w ≤ W → d < f1 → d < f2 → ∃ u v, LX8_wants_44 (nI W) fr fc wt row ln sgs (nI W) fo op f1 b (nI w) = some u ∧ LX9_wants_25 (nI a) r gn f2 b (nI w) ws tr rw' = some v ∧ u.1 = v.1 := by
  intro d
  induction d with
  | zero =>
    intro f1 f2 w b ws tr rw' q1 q2 q3 q4
    obtain ⟨g1, rfl⟩ : ∃ f, f1 = f + 1 := ⟨f1 - 1, by omega⟩
    obtain ⟨g2, rfl⟩ : ∃ f, f2 = f + 1 := ⟨f2 - 1, by omega⟩
    rw [LX8_wants_44, LX9_wants_25, sX0_words, v_b, n_cl (show 0 < 2147483648 by decide), h0, vi_p (show nI W ≤ nI w from by rw [n_le (by omega) (by omega)]; omega), vi_p (show nI W ≤ nI w from by rw [n_le (by omega) (by omega)]; omega)]
    exact ⟨_, _, rfl, rfl, rfl⟩
  | succ d ih =>
    intro f1 f2 w b ws tr rw' q1 q2 q3 q4
    obtain ⟨g1, rfl⟩ : ∃ f, f1 = f + 1 := ⟨f1 - 1, by omega⟩
    obtain ⟨g2, rfl⟩ : ∃ f, f2 = f + 1 := ⟨f2 - 1, by omega⟩
    obtain ⟨v, ws', tr', row', v1, v2⟩ := hln w (by omega) ws tr rw'
    rw [LX8_wants_44, LX9_wants_25, sX0_words, v_b, n_cl (show 0 < 2147483648 by decide), h0, vi_n (show ¬ nI W ≤ nI w from by rw [n_le (by omega) (by omega)]; omega), vi_n (show ¬ nI W ≤ nI w from by rw [n_le (by omega) (by omega)]; omega), e_howMany hW (by omega), v1, v_b, v_b, v2]
    by_cases c : v = -4
    · rw [vi_p c, vi_p c]
      simp only [v_l, nI_add, or_n0]
      exact ih g1 g2 (w + 1) _ _ _ _ (by omega) (by omega) (by omega) (by omega)
    · rw [vi_n c, vi_n c]
      simp only [v_l, nI_add]
      exact ih g1 g2 (w + 1) _ _ _ _ (by omega) (by omega) (by omega) (by omega)
theorem q_wants (fr fc wt row ln sgs ws tr rw' : Nat → Int32) (wo fo op : Int32) (hB : RB W L A com len par lik fb hb pr r) (hS : SR W L A r sc gn) (x : Int32) : ∃ u, sX8_wants com len par lik (nI W) (nI L) (nI A) fb hb sc fr fc wt row ln sgs wo fo op x = some u ∧ ∃ w, sX9_wants r gn ws tr rw' x = some w ∧ u.1 = w.1 := by
  obtain ⟨⟨W8, L6, A5⟩, ⟨h0, h1, h2, h3, h6⟩, ⟨p, q, p1, p2, q1, q2, h4, h5, hh⟩, -⟩ := id hB
  subst hh
  unfold sX8_wants sX9_wants
  rw [e_isActor3 A5, e_isActor9 A5 h2]
  simp only [v_b]
  by_cases h : 0 ≤ x.toInt ∧ x.toInt < A
  · rw [if_pos h, vi_n n10, vi_n n10]
    obtain ⟨a, ha, rfl⟩ := n_ofN (N := A) h.1 h.2
    obtain ⟨kd, x, co, sh, gu, st, sg, hb', hv⟩ := hS.1 a ha
    rw [e_waits4 (show a < 5 by omega) hb'.2.2.2.2.2.1 hv.2.2.2.2.2.1.1, e_waits9 (show a < 5 by omega) hb'.2.2.2.2.2.1 hv.2.2.2.2.2.1.2, v_b, v_b]
    by_cases c : st = 0
    · rw [if_pos c, vi_n n10, vi_n n10]
      obtain ⟨u, u1, u2, u3⟩ := e_run3 fr fc wt row ln sgs wo fo op hB p2 q2 (show a < 5 by omega) hb' hv
      rw [u1, v_b, u2]
      obtain ⟨s, t, s1, s2, s3⟩ := wants_loop (r := r) (gn := gn) (a := a) (fr := u.1) (fc := u.2.1) (wt := u.2.2.1) (row := u.2.2.2.1) (ln := u.2.2.2.2.1) (sgs := u.2.2.2.2.2.1) (fo := u.2.2.2.2.2.2.2.1) (op := u.2.2.2.2.2.2.2.2) W8 h0 (fun w hw ws tr rw' => by
        obtain ⟨z, v, ws', tr', row', z1, z2, z3, z4, -⟩ := q_both fr fc wt row ln sgs ws tr rw' wo fo op hB p2 q2 h4 h5 (show a < 5 by omega) hw hb' hv
        have e : u = z := Option.some.inj (u1.symm.trans z1)
        subst e
        exact ⟨v, ws', tr', row', z3, z4⟩) W vF vF 0 (nI 0) ws tr rw' rfl (by omega) (by show W < 20000; omega) (by show W < 20000; omega)
      exact ⟨s, s1, t, s2, s3⟩
    · rw [if_neg c, vi_p nI_0, vi_p nI_0]
      exact ⟨_, rfl, _, rfl, rfl⟩
  · rw [if_neg h, vi_p nI_0, vi_p nI_0]
    exact ⟨_, rfl, _, rfl, rfl⟩
theorem e_fw {x : Nat} (fr fc wt row ln sgs ws tr rw' : Nat → Int32) (wo fo op : Int32) (hB : RB W L A com len par lik fb (nI (10 * p + q)) pr r) (hp : p ≤ 5) (hq : q ≤ 4) (h4 : r 4 = nI p) (h5 : r 5 = nI q) (ha : a < 5) (hb' : SAb W L kd x co sh gu st sg) (hv : SAv r sc gn a kd x co sh gu st sg) : ∃ z v ws' tr' row', sX8_fewestForWanted com len par lik (nI W) (nI L) fb (nI (10 * p + q)) sc fr fc wt row ln sgs wo fo op (nI a) = some z ∧ sX9_fewestFor r gn ws tr rw' (nI a) (nI x) = some (v, ws', tr', row') ∧ z.1 = v ∧ (v = -4 ∨ ∃ m, m ≤ 3 ∧ v = nI m) := by
  obtain ⟨u, v, ws', tr', row', u1, u2, u3, u4, u5⟩ := q_both fr fc wt row ln sgs ws tr rw' wo fo op hB hp hq h4 h5 ha hb'.2.1 hb' hv
  unfold sX8_fewestForWanted
  rw [u1, v_b, e_cell (by omega), v_b, hv.2.1.1, u2, e_howMany hB.1.1 hb'.2.1, v_b, u4]
  refine ⟨_, v, ws', tr', row', rfl, u3, rfl, ?_⟩
  rcases u5 with e | ⟨m, m1, m2, -⟩
  · exact Or.inl e
  · exact Or.inr ⟨m, m1, m2⟩
set_option maxHeartbeats 2000000 in
theorem most_loop (hB : RB W L A com len par lik fb (nI (10 * p + q)) pr r) (hS : SR W L A r sc gn) (hp : p ≤ 5) (hq : q ≤ 4) (h4 : r 4 = nI p) (h5 : r 5 = nI q) : ∀ (d f1 f2 a : Nat) (n : Int32) (fr fc wt row ln sgs ws tr rw' : Nat → Int32) (wo fo op : Int32), d = A - a → a ≤ A → d < f1 → d < f2 → ∃ u v, LX8_most_4 com len par lik (nI W) (nI L) (nI A) fb (nI (10 * p + q)) pr sc f1 n (nI a) fr fc wt row ln sgs wo fo op = some u ∧ LX9_most_4 r gn f2 n (nI a) ws tr rw' = some v ∧ u.1 = v.1 := by
  obtain ⟨⟨W8, L6, A5⟩, ⟨h0, h1, h2, h3, h6⟩, -⟩ := id hB
  intro d
  induction d with
  | zero =>
    intro f1 f2 a n fr fc wt row ln sgs ws tr rw' wo fo op q1 q2 q3 q4
    obtain ⟨g1, rfl⟩ : ∃ f, f1 = f + 1 := ⟨f1 - 1, by omega⟩
    obtain ⟨g2, rfl⟩ : ∃ f, f2 = f + 1 := ⟨f2 - 1, by omega⟩
    rw [LX8_most_4, LX9_most_4, sX0_actors, v_b, n_cl (show 2 < 2147483648 by decide), h2, vi_p (show nI A ≤ nI a from by rw [n_le (by omega) (by omega)]; omega), vi_p (show nI A ≤ nI a from by rw [n_le (by omega) (by omega)]; omega)]
    exact ⟨_, _, rfl, rfl, rfl⟩
  | succ d ih =>
    intro f1 f2 a n fr fc wt row ln sgs ws tr rw' wo fo op q1 q2 q3 q4
    obtain ⟨g1, rfl⟩ : ∃ f, f1 = f + 1 := ⟨f1 - 1, by omega⟩
    obtain ⟨g2, rfl⟩ : ∃ f, f2 = f + 1 := ⟨f2 - 1, by omega⟩
    obtain ⟨kd, x, co, sh, gu, st, sg, hb', hv⟩ := hS.1 a (by omega)
    have nn : ∀ n : Int32, n + nI 0 = n := fun n => by rw [nI_0, Int32.add_zero]
    rw [LX8_most_4, LX9_most_4, sX0_actors, v_b, n_cl (show 2 < 2147483648 by decide), n_cl (show 6 < 2147483648 by decide), h2, h6, vi_n (show ¬ nI A ≤ nI a from by rw [n_le (by omega) (by omega)]; omega), vi_n (show ¬ nI A ≤ nI a from by rw [n_le (by omega) (by omega)]; omega), e_waits4 (show a < 5 by omega) hb'.2.2.2.2.2.1 hv.2.2.2.2.2.1.1, e_waits9 (show a < 5 by omega) hb'.2.2.2.2.2.1 hv.2.2.2.2.2.1.2, v_b, v_b]
    by_cases c : st = 0
    · rw [if_pos c, vi_n n10, vi_n n10]
      obtain ⟨z, v, ws', tr', row', z1, z2, z3, z4⟩ := e_fw fr fc wt row ln sgs ws tr rw' wo fo op hB hp hq h4 h5 (show a < 5 by omega) hb' hv
      rw [z1, v_b, show nI 0 + nI a = nI a from by rw [nI_add, Nat.zero_add], v_g (by omega) (by omega), n_cl (show a < 2147483648 by omega), hv.2.1.2, z2, v_b, z3]
      by_cases e : v = -4
      · rw [vi_p e, vi_p e]
        simp only [v_l, nI_add, nn]
        exact ih g1 g2 (a + 1) _ _ _ _ _ _ _ _ _ _ _ _ _ (by omega) (by omega) (by omega) (by omega)
      · rw [vi_n e, vi_n e, sX0_price, v_b, sX4_canPay, e_cell (by omega), v_b, e_cell (by omega), v_b, hv.2.2.1.1, hv.2.2.2.1.1, show nI 10 + nI a = nI (10 + a) from nI_add _ _, v_g (by omega) (by omega), n_cl (show 10 + a < 2147483648 by omega), hv.2.2.2.1.2, show nI 5 + nI a = nI (5 + a) from nI_add _ _, v_g (by omega) (by omega), n_cl (show 5 + a < 2147483648 by omega), hv.2.2.1.2]
        by_cases g : nI co < pr * (nI sh + v)
        · rw [vi_p g, vi_p g, v_b, vi_p nI_0]
          simp only [v_l, nI_add, nn]
          exact ih g1 g2 (a + 1) _ _ _ _ _ _ _ _ _ _ _ _ _ (by omega) (by omega) (by omega) (by omega)
        · rw [vi_n g, vi_n g, v_b, vi_n n10]
          simp only [v_l, nI_add]
          exact ih g1 g2 (a + 1) _ _ _ _ _ _ _ _ _ _ _ _ _ (by omega) (by omega) (by omega) (by omega)
    · rw [if_neg c, vi_p nI_0, vi_p nI_0]
      simp only [v_l, nI_add, nn]
      exact ih g1 g2 (a + 1) _ _ _ _ _ _ _ _ _ _ _ _ _ (by omega) (by omega) (by omega) (by omega)
theorem q_most (fr fc wt row ln sgs ws tr rw' : Nat → Int32) (wo fo op : Int32) (hB : RB W L A com len par lik fb hb pr r) (hS : SR W L A r sc gn) : ∃ u, sX8_most com len par lik (nI W) (nI L) (nI A) fb hb pr sc fr fc wt row ln sgs wo fo op = some u ∧ ∃ w, sX9_most r gn ws tr rw' = some w ∧ u.1 = w.1 := by
  obtain ⟨⟨W8, L6, A5⟩, -, ⟨p, q, p1, p2, q1, q2, h4, h5, hh⟩, -⟩ := id hB
  subst hh
  unfold sX8_most sX9_most
  obtain ⟨u, v, u1, u2, u3⟩ := most_loop hB hS p2 q2 h4 h5 A vF vF 0 (nI 0) fr fc wt row ln sgs ws tr rw' wo fo op rfl (by omega) (by show A < 20000; omega) (by show A < 20000; omega)
  exact ⟨u, u1, v, u2, u3⟩
end FEWEST

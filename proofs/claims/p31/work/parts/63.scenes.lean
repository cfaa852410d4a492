/-! values: scenes -/
def SAv (post cells now : Nat → Int32) (a kd x co sh gu st : Nat) (sg : Nat → Nat) : Prop := (cells (a * 11) = nI kd ∧ post (37 + a) = nI kd) ∧ (cells (a * 11 + 1) = nI x ∧ now a = nI x) ∧ (cells (a * 11 + 2) = nI co ∧ now (5 + a) = nI co) ∧ (cells (a * 11 + 3) = nI sh ∧ now (10 + a) = nI sh) ∧ (cells (a * 11 + 4) = nI gu ∧ now (15 + a) = nI gu) ∧ (cells (a * 11 + 5) = nI st ∧ now (20 + a) = nI st) ∧ ∀ k, k < 5 → cells (a * 11 + (6 + k)) = nI (sg k) ∧ now (25 + 5 * a + k) = nI (sg k)
def SAb (W L kd x co sh gu st : Nat) (sg : Nat → Nat) : Prop := kd ≤ 3 ∧ x < W ∧ co ≤ 99 ∧ sh ≤ 5 ∧ gu < 256 ∧ st ≤ 3 ∧ (st = 0 → pc gu ≤ 2) ∧ ∀ k, sg k < 9 + L
def SA (W L : Nat) (post cells now : Nat → Int32) (a : Nat) : Prop := ∃ (kd x co sh gu st : Nat) (sg : Nat → Nat), SAb W L kd x co sh gu st sg ∧ SAv post cells now a kd x co sh gu st sg
def SR (W L A : Nat) (post cells now : Nat → Int32) : Prop := (∀ a, a < A → SA W L post cells now a) ∧ ∀ a, A ≤ a → a < 5 → now (10 + a) = nI 0
/-- only what is one actor's changed -/
def offA (a : Nat) (cells cells' now now' : Nat → Int32) : Prop := (∀ j, j < a * 11 ∨ a * 11 + 11 ≤ j → cells' j = cells j) ∧ ∀ j, ¬ (j = a ∨ j = 5 + a ∨ j = 10 + a ∨ j = 15 + a ∨ j = 20 + a ∨ (25 + 5 * a ≤ j ∧ j < 30 + 5 * a)) → now' j = now j
theorem SA_off {W L a b : Nat} {post cells cells' now now' : Nat → Int32} (ha : a < 5) (hb : b < 5) (hab : ¬ b = a) (o : offA a cells cells' now now') (h : SA W L post cells now b) : SA W L post cells' now' b := by
  obtain ⟨kd, x, co, sh, gu, st, sg, hb', ⟨a1, a2⟩, ⟨b1, b2⟩, ⟨c1, c2⟩, ⟨d1, d2⟩, ⟨e1, e2⟩, ⟨f1, f2⟩, hs⟩ := h
  obtain ⟨o1, o2⟩ := o
  refine ⟨kd, x, co, sh, gu, st, sg, hb', ⟨?_, a2⟩, ⟨?_, ?_⟩, ⟨?_, ?_⟩, ⟨?_, ?_⟩, ⟨?_, ?_⟩, ⟨?_, ?_⟩, fun k hk => ⟨?_, ?_⟩⟩
  · rw [o1 _ (by omega)]; exact a1
  · rw [o1 _ (by omega)]; exact b1
  · rw [o2 _ (by omega)]; exact b2
  · rw [o1 _ (by omega)]; exact c1
  · rw [o2 _ (by omega)]; exact c2
  · rw [o1 _ (by omega)]; exact d1
  · rw [o2 _ (by omega)]; exact d2
  · rw [o1 _ (by omega)]; exact e1
  · rw [o2 _ (by omega)]; exact e2
  · rw [o1 _ (by omega)]; exact f1
  · rw [o2 _ (by omega)]; exact f2
  · rw [o1 _ (by omega)]; exact (hs k hk).1
  · rw [o2 _ (by omega)]; exact (hs k hk).2
theorem SR_off {W L A a : Nat} {post cells cells' now now' : Nat → Int32} (hA : A ≤ 5) (ha : a < A) (o : offA a cells cells' now now') (h : SR W L A post cells now) (hs : SA W L post cells' now' a) : SR W L A post cells' now' := by
  obtain ⟨h1, h2⟩ := h
  refine ⟨fun b hb => ?_, fun b b1 b2 => ?_⟩
  · by_cases q : b = a
    · subst q; exact hs
    · exact SA_off (by omega) (by omega) q o (h1 b hb)
  · rw [o.2 _ (by omega)]; exact h2 b b1 b2
theorem SR_congr {W L A : Nat} {post cells cells' now now' : Nat → Int32} (hA : A ≤ 5) (h : SR W L A post cells now) (e1 : ∀ j, j < 55 → cells' j = cells j) (e2 : ∀ j, j < 50 → now' j = now j) : SR W L A post cells' now' := by
  obtain ⟨h1, h2⟩ := h
  refine ⟨fun b hb => ?_, fun b b1 b2 => ?_⟩
  · obtain ⟨kd, x, co, sh, gu, st, sg, hb', ⟨a1, a2⟩, ⟨b1, b2⟩, ⟨c1, c2⟩, ⟨d1, d2⟩, ⟨f1, f2⟩, ⟨g1, g2⟩, hs⟩ := h1 b hb
    exact ⟨kd, x, co, sh, gu, st, sg, hb', ⟨(e1 _ (by omega)).trans a1, a2⟩, ⟨(e1 _ (by omega)).trans b1, (e2 _ (by omega)).trans b2⟩, ⟨(e1 _ (by omega)).trans c1, (e2 _ (by omega)).trans c2⟩, ⟨(e1 _ (by omega)).trans d1, (e2 _ (by omega)).trans d2⟩, ⟨(e1 _ (by omega)).trans f1, (e2 _ (by omega)).trans f2⟩, ⟨(e1 _ (by omega)).trans g1, (e2 _ (by omega)).trans g2⟩, fun k hk => ⟨(e1 _ (by omega)).trans (hs k hk).1, (e2 _ (by omega)).trans (hs k hk).2⟩⟩
  · rw [e2 _ (by omega)]; exact h2 b b1 b2
theorem SR_start {W L A : Nat} {cells post now : Nat → Int32} (hA : A ≤ 5) (h : RStart W A cells post now) : SR W L A post cells now := by
  obtain ⟨h1, h2⟩ := h
  refine ⟨fun a ha => ?_, fun a a1 a2 => h2 _ (by omega) (by omega)⟩
  obtain ⟨⟨k, x, co, r1, r2, r3, r4, r5, r6, r7, r8, r9⟩, r10⟩ := h1 a ha
  refine ⟨k, x, co, 0, 0, 0, fun _ => 0, ⟨r1, r2, r3, by omega, by omega, by omega, fun _ => by decide, fun _ => (show 0 < 9 + L by omega)⟩, ⟨r4, r5⟩, ⟨r6, r7⟩, ⟨r8, r9⟩, ⟨r10 3 (by omega) (by omega), h2 _ (by omega) (by omega)⟩, ⟨r10 4 (by omega) (by omega), h2 _ (by omega) (by omega)⟩, ⟨r10 5 (by omega) (by omega), h2 _ (by omega) (by omega)⟩, fun j hj => ⟨r10 (6 + j) (by omega) (by omega), h2 _ (by omega) (by omega)⟩⟩
section SCENES
variable {W L A : Nat} {com len par lik : Nat → Int32} {fb hb pr : Int32} {r cells now : Nat → Int32} {a kd x co sh gu st : Nat} {sg : Nat → Nat}
/-! one actor stands alike on both sides -/
theorem e_waits4 (ha : a < 5) (hst : st ≤ 3) (f1 : cells (a * 11 + 5) = nI st) : sX4_waits cells (nI a) = some (if st = 0 then nI 1 else nI 0) := by
  unfold sX4_waits
  rw [e_cell (by omega), v_b, f1]
  by_cases h : st = 0
  · rw [vi_p (by rw [h]; exact nI_0), if_pos h]
  · rw [vi_n (by rw [n_eq0 (by omega)]; exact h), if_neg h]
theorem e_waits9 (ha : a < 5) (hst : st ≤ 3) (f2 : now (20 + a) = nI st) : sX9_waits now (nI a) = some (if st = 0 then nI 1 else nI 0) := by
  unfold sX9_waits
  rw [nI_add, v_g (by omega) (by omega), n_cl (by omega), f2]
  by_cases h : st = 0
  · rw [vi_p (by rw [h]; exact nI_0), if_pos h]
  · rw [vi_n (by rw [n_eq0 (by omega)]; exact h), if_neg h]
theorem e_can4 (ha : a < 5) (hst : st ≤ 3) (hsh : sh ≤ 5) (d1 : cells (a * 11 + 3) = nI sh) (f1 : cells (a * 11 + 5) = nI st) : sX4_canShow cells (nI a) = some (if st = 0 ∧ sh < 5 then nI 1 else nI 0) := by
  unfold sX4_canShow
  rw [e_waits4 ha hst f1, v_b, e_cell (by omega), v_b, d1]
  by_cases h : st = 0
  · rw [if_pos h, vi_n n10]
    by_cases g : sh < 5
    · rw [vi_n (show ¬ nI 5 ≤ nI sh from by rw [n_le (by omega) (by omega)]; omega), if_pos ⟨h, g⟩]
    · rw [vi_p (show nI 5 ≤ nI sh from by rw [n_le (by omega) (by omega)]; omega), if_neg (fun q => g q.2)]
  · rw [if_neg h, vi_p nI_0, if_neg (fun q => h q.1)]
theorem e_can9 (ha : a < 5) (hst : st ≤ 3) (hsh : sh ≤ 5) (d2 : now (10 + a) = nI sh) (f2 : now (20 + a) = nI st) : sX9_mayShow now (nI a) = some (if st = 0 ∧ sh < 5 then nI 1 else nI 0) := by
  unfold sX9_mayShow
  rw [nI_add, v_g (by omega) (by omega), n_cl (by omega), f2, nI_add, v_g (by omega) (by omega), n_cl (by omega), d2]
  by_cases h : st = 0
  · rw [vi_p (by rw [h]; exact nI_0)]
    by_cases g : sh < 5
    · rw [vi_n (show ¬ nI 5 ≤ nI sh from by rw [n_le (by omega) (by omega)]; omega), if_pos ⟨h, g⟩]
    · rw [vi_p (show nI 5 ≤ nI sh from by rw [n_le (by omega) (by omega)]; omega), if_neg (fun q => g q.2)]
  · rw [vi_n (by rw [n_eq0 (by omega)]; exact h), if_neg (fun q => h q.1)]
theorem e_fresh4 (ha : a < 5) (hst : st ≤ 3) (hsh : sh ≤ 5) (d1 : cells (a * 11 + 3) = nI sh) (f1 : cells (a * 11 + 5) = nI st) : sX4_isFresh cells (nI a) = some (if st = 0 ∧ sh = 0 then nI 1 else nI 0) := by
  unfold sX4_isFresh
  rw [e_waits4 ha hst f1, v_b, e_cell (by omega), v_b, d1]
  by_cases h : st = 0
  · rw [if_pos h, vi_n n10]
    by_cases g : sh = 0
    · rw [vi_p (by rw [g]; exact nI_0), if_pos ⟨h, g⟩]
    · rw [vi_n (by rw [n_eq0 (by omega)]; exact g), if_neg (fun q => g q.2)]
  · rw [if_neg h, vi_p nI_0, if_neg (fun q => h q.1)]
theorem e_fresh9 (ha : a < 5) (hst : st ≤ 3) (hsh : sh ≤ 5) (d2 : now (10 + a) = nI sh) (f2 : now (20 + a) = nI st) : sX9_isFresh now (nI a) = some (if st = 0 ∧ sh = 0 then nI 1 else nI 0) := by
  unfold sX9_isFresh
  rw [e_waits9 ha hst f2, v_b, nI_add, v_g (by omega) (by omega), n_cl (by omega), d2]
  by_cases h : st = 0
  · rw [if_pos h, vi_n n10]
    by_cases g : sh = 0
    · rw [vi_p (by rw [g]; exact nI_0), if_pos ⟨h, g⟩]
    · rw [vi_n (by rw [n_eq0 (by omega)]; exact g), if_neg (fun q => g q.2)]
  · rw [if_neg h, vi_p nI_0, if_neg (fun q => h q.1)]
/-- the weights of one actor, by all his signs -/
def wA (r : Nat → Int32) (kd : Nat) (p q gu sh : Nat) (sg : Nat → Nat) : Nat → Int32 := wgt r (nI kd) p q (nI gu) (sgL sg sh 0)
theorem e_wA3 {p q w : Nat} (hB : RB W L A com len par lik fb hb pr r) (hp : p ≤ 5) (hq : q ≤ 4) (ha : a < 5) (hw : w < W) (hb' : SAb W L kd x co sh gu st sg) (hv : SAv r cells now a kd x co sh gu st sg) : sX0_weightOf com len par lik cells (nI a) (nI w) (nI 31) (nI (10 * p + q)) = some (wA r kd p q gu sh sg w) := by
  obtain ⟨-, -, -, hsh, -, -, -, hg⟩ := hb'
  obtain ⟨⟨a1, -⟩, -, -, ⟨d1, -⟩, ⟨e1, -⟩, -, hs⟩ := hv
  rw [e_wgt3 hB (nI 31) sg ha hw hp hq hsh d1 (fun k hk => (hs k hk).1) (fun k _ => hg k), a1, e1, sel_all sg sh 0 (by omega)]
  rfl
theorem e_next3 {p q : Nat} (hB : RB W L A com len par lik fb hb pr r) (hp : p ≤ 5) (hq : q ≤ 4) (ha : a < 5) (hb' : SAb W L kd x co sh gu st sg) (hv : SAv r cells now a kd x co sh gu st sg) : sX0_heaviest com len par lik (nI W) cells (nI a) (nI 31) (nI (10 * p + q)) = some (enc (gb (wA r kd p q gu sh sg) W 0 none)) :=
  e_heavy3 hB.1.1 (fun w hw => e_wA3 hB hp hq ha hw hb' hv)
theorem e_wA9 {p q : Nat} (ws : Nat → Int32) (hW : W ≤ 8) (hL : L ≤ 6) (h0 : r 0 = nI W) (h4 : r 4 = nI p) (h5 : r 5 = nI q) (ha : a < 5) (hb' : SAb W L kd x co sh gu st sg) (hv : SAv r cells now a kd x co sh gu st sg) : ∃ ws', sX9_weighActor r ws now (nI a) = some ws' ∧ ∀ v, v < W → ws' v = wA r kd p q gu sh sg v := by
  obtain ⟨-, -, -, hsh, -, -, -, hg⟩ := hb'
  obtain ⟨⟨-, a2⟩, -, -, ⟨-, d2⟩, ⟨-, e2⟩, -, hs⟩ := hv
  unfold sX9_weighActor
  obtain ⟨ws', w1, w2⟩ := e_weigh9 (r := r) (f := now) (kd := nI kd) (gu := nI gu) (b := 25 + 5 * a) (m := sh) (x := p) (y := q) (n := 50) ws sg hW h0 hsh (by omega) (by omega) (fun k hk => ⟨(hs k (by omega)).2, by have := hg k; omega⟩)
  simp (disch := omega) only [v_b, v_l, v_i, v_g1, v_g, v_z0, v_z1, v_zif, nI_add, n_mul, n_sub, n_cl, n_le, n_lt, n_eq, n_eq0, n_le0, n_lt0, n_eqm, n_meq0, n_lem, z_add, v_t, v_f, Nat.reduceMul, Nat.reduceAdd, Nat.zero_add, Nat.add_zero, Nat.sub_zero, if_pos, if_neg, a2, d2, e2, h4, h5]
  rw [w1]
  exact ⟨ws', rfl, w2⟩
theorem e_next9 {p q : Nat} (ws : Nat → Int32) (hW : W ≤ 8) (hL : L ≤ 6) (h0 : r 0 = nI W) (h4 : r 4 = nI p) (h5 : r 5 = nI q) (ha : a < 5) (hb' : SAb W L kd x co sh gu st sg) (hv : SAv r cells now a kd x co sh gu st sg) : ∃ ws', sX9_nextAt r ws now (nI a) = some (enc (gb (wA r kd p q gu sh sg) W 0 none), ws') := by
  obtain ⟨ws', w1, w2⟩ := e_wA9 ws hW hL h0 h4 h5 ha hb' hv
  unfold sX9_nextAt
  rw [w1, v_b, e_great9 hW h0, v_b, gb_congr W 0 none (fun v hv => w2 v (by omega)) (fun v e => by cases e)]
  exact ⟨ws', rfl⟩
/-! acting -/
set_option maxHeartbeats 2000000 in
theorem q_shows {s : Nat} (h3 : r 3 = fb) (ha : a < 5) (hs : s < 9 + L) (h5 : sh < 5) (hb' : SAb W L kd x co sh gu st sg) (hv : SAv r cells now a kd x co sh gu st sg) : ∃ z, sX8_showSign fb cells (nI a) (nI s) = some z ∧ ∃ w, sX9_shows r now (nI a) (nI s) = some w ∧ z.1 = w.1 ∧ offA a cells z.2 now w.2 ∧ SA W L r z.2 w.2 a ∧ z.2 (a * 11 + 2) = cells (a * 11 + 2) := by
  obtain ⟨b1, b2, b3, b4, b5, b6, b7, b8⟩ := hb'
  obtain ⟨⟨a1, a2⟩, ⟨c1, c2⟩, ⟨d1, d2⟩, ⟨e1, e2⟩, ⟨f1, f2⟩, ⟨g1, g2⟩, hsg⟩ := hv
  unfold sX8_showSign sX9_shows sX0_isForbidden sX4_addSign
  rw [n_cl (show 3 < 2147483648 by decide), h3, e_has, v_b]
  by_cases h : hasB fb (nI s)
  · rw [vi_p h, v_b, vi_n n10, if_pos h, vi_n n10, e_set (by omega), v_b]
    simp (disch := omega) only [v_b, v_l, v_i, v_g1, v_g, v_z0, v_z1, v_zif, nI_add, n_mul, n_sub, n_cl, n_le, n_lt, n_eq, n_eq0, n_le0, n_lt0, n_eqm, n_meq0, n_lem, z_add, v_t, v_f, Nat.reduceMul, Nat.reduceAdd, Nat.zero_add, Nat.add_zero, Nat.sub_zero, if_pos, if_neg]
    refine ⟨_, rfl, _, rfl, rfl, ⟨fun j hj => ?_, fun j hj => ?_⟩, ⟨kd, x, co, sh, gu, 3, sg, ⟨b1, b2, b3, b4, b5, by omega, fun q => by omega, b8⟩, ?_⟩, ?_⟩
    · simp (disch := omega) only [u_ne]
    · simp (disch := omega) only [u_ne]
    · refine ⟨⟨?_, a2⟩, ⟨?_, ?_⟩, ⟨?_, ?_⟩, ⟨?_, ?_⟩, ⟨?_, ?_⟩, ⟨?_, ?_⟩, fun k hk => ⟨?_, ?_⟩⟩ <;> simp (disch := omega) only [u_ne, u_eq] <;> first | assumption | exact (hsg k hk).1 | exact (hsg k hk).2
    · simp (disch := omega) only [u_ne]
  · rw [vi_n h, v_b, vi_p nI_0, if_neg h, vi_p nI_0, e_cell (by omega), v_b, e1]
    simp (disch := omega) only [v_b, v_l, v_i, v_g1, v_g, v_z0, v_z1, v_zif, nI_add, n_mul, n_sub, n_cl, n_le, n_lt, n_eq, n_eq0, n_le0, n_lt0, n_eqm, n_meq0, n_lem, z_add, v_t, v_f, Nat.reduceMul, Nat.reduceAdd, Nat.zero_add, Nat.add_zero, Nat.sub_zero, if_pos, if_neg, e2, e_set, u_ne]
    refine ⟨_, rfl, _, rfl, rfl, ⟨fun j hj => ?_, fun j hj => ?_⟩, ⟨kd, x, co, sh + 1, gu, st, fun k => if k = sh then s else sg k, ⟨b1, b2, b3, by omega, b5, b6, b7, fun k => ?_⟩, ?_⟩, ?_⟩
    · simp (disch := omega) only [u_ne]
    · simp (disch := omega) only [u_ne]
    · show (if k = sh then s else sg k) < 9 + L
      split
      · exact hs
      · exact b8 k
    · refine ⟨⟨?_, a2⟩, ⟨?_, ?_⟩, ⟨?_, ?_⟩, ⟨?_, ?_⟩, ⟨?_, ?_⟩, ⟨?_, ?_⟩, fun k hk => ?_⟩
      · simp (disch := omega) only [u_ne, u_eq]; exact a1
      · simp (disch := omega) only [u_ne, u_eq]; exact c1
      · simp (disch := omega) only [u_ne, u_eq]; exact c2
      · simp (disch := omega) only [u_ne, u_eq]; exact d1
      · simp (disch := omega) only [u_ne, u_eq]; exact d2
      · simp (disch := omega) only [u_ne, u_eq]
      · simp (disch := omega) only [u_ne, u_eq]
      · simp (disch := omega) only [u_ne, u_eq]; exact f1
      · simp (disch := omega) only [u_ne, u_eq]; exact f2
      · simp (disch := omega) only [u_ne, u_eq]; exact g1
      · simp (disch := omega) only [u_ne, u_eq]; exact g2
      · by_cases q : k = sh
        · subst q
          simp (disch := omega) only [u_ne, u_eq, v_t]
          exact ⟨trivial, trivial⟩
        · simp (disch := omega) only [u_ne, u_eq]
          rw [if_neg q]
          exact hsg k hk
    · simp (disch := omega) only [u_ne]
end SCENES
set_option maxRecDepth 1000000 in
theorem pcJ : ∀ g, g < 256 → sJ6_bitCount_0f7a4 (nI g) = some (nI (pc g)) := by decide +kernel
set_option maxRecDepth 1000000 in
theorem pc9 : ∀ g, g < 256 → sX9_bits (nI g) = some (nI (pc g)) := by decide +kernel

/-! values: a whole text read on both sides -/
def RB (W L A : Nat) (com len par lik : Nat → Int32) (fb hb pr : Int32) (r : Nat → Int32) : Prop :=
  (W ≤ 8 ∧ L ≤ 6 ∧ A ≤ 5) ∧ (r 0 = nI W ∧ r 1 = nI L ∧ r 2 = nI A ∧ r 3 = fb ∧ r 6 = pr) ∧ (∃ x y : Nat, 2 ≤ x ∧ x ≤ 5 ∧ 1 ≤ y ∧ y ≤ 4 ∧ r 4 = nI x ∧ r 5 = nI y ∧ hb = nI (10 * x + y)) ∧ (∃ p : Nat, p ≤ 9 ∧ pr = nI p) ∧ (∀ i, i < W → com i = r (7 + i) ∧ len i = r (15 + i) ∧ par i = r (23 + i) ∧ ∃ y : Nat, 1 ≤ y ∧ y ≤ 9 ∧ com i = nI y) ∧ (∀ i, i < L → lik i = r (31 + i))
def RA (W A : Nat) (cells r : Nat → Int32) : Prop := ∀ a, a < A → (∃ k x co : Nat, k ≤ 3 ∧ x < W ∧ co ≤ 99 ∧ cells (a * 11) = nI k ∧ r (37 + a) = nI k ∧ cells (a * 11 + 1) = nI x ∧ r (42 + a) = nI x ∧ cells (a * 11 + 2) = nI co ∧ r (47 + a) = nI co) ∧ ∀ j, 3 ≤ j → j < 11 → cells (a * 11 + j) = nI 0
def RZ (q : (Nat → Int32) × (Nat → Int32) × (Nat → Int32) × (Nat → Int32) × Int32 × Int32 × Int32 × Int32 × Int32 × Int32 × (Nat → Int32)) (r : Nat → Int32) : Prop :=
  ∃ W L A : Nat, q.2.2.2.2.1 = nI W ∧ q.2.2.2.2.2.1 = nI L ∧ q.2.2.2.2.2.2.1 = nI A ∧ RB W L A q.1 q.2.1 q.2.2.1 q.2.2.2.1 q.2.2.2.2.2.2.2.1 q.2.2.2.2.2.2.2.2.1 q.2.2.2.2.2.2.2.2.2.1 r ∧ RA W A q.2.2.2.2.2.2.2.2.2.2 r
section RBROWS
variable {W L A : Nat} {com len par lik : Nat → Int32} {fb hb pr : Int32} {r r' : Nat → Int32} {cells cells' : Nat → Int32}
theorem RB_congr (h : RB W L A com len par lik fb hb pr r) (e : ∀ i, i < 52 → r' i = r i) : RB W L A com len par lik fb hb pr r' := by
  obtain ⟨⟨b1, b2, b3⟩, ⟨h0, h1, h2, h3, h6⟩, ⟨x, y, x1, x2, y1, y2, h4, h5, hh⟩, hp, hw, hl⟩ := h
  refine ⟨⟨b1, b2, b3⟩, ⟨(e 0 (by omega)).trans h0, (e 1 (by omega)).trans h1, (e 2 (by omega)).trans h2, (e 3 (by omega)).trans h3, (e 6 (by omega)).trans h6⟩, ⟨x, y, x1, x2, y1, y2, (e 4 (by omega)).trans h4, (e 5 (by omega)).trans h5, hh⟩, hp, fun i hi => ?_, fun i hi => ?_⟩
  · rw [e (7 + i) (by omega), e (15 + i) (by omega), e (23 + i) (by omega)]
    exact hw i hi
  · rw [e (31 + i) (by omega)]
    exact hl i hi
theorem RB_price {p : Nat} (hp : p ≤ 9) (h : RB W L A com len par lik fb hb pr r) : RB W L A com len par lik fb hb (nI p) (upd r 6 (nI p)) := by
  obtain ⟨⟨b1, b2, b3⟩, ⟨h0, h1, h2, h3, h6⟩, ⟨x, y, x1, x2, y1, y2, h4, h5, hh⟩, _, hw, hl⟩ := h
  refine ⟨⟨b1, b2, b3⟩, ?_, ⟨x, y, x1, x2, y1, y2, ?_, ?_, hh⟩, ⟨p, hp, rfl⟩, fun i hi => ?_, fun i hi => ?_⟩ <;> simp (disch := omega) only [u_ne, u_eq]
  · exact ⟨h0, h1, h2, h3, trivial⟩
  · exact h4
  · exact h5
  · exact hw i hi
  · exact hl i hi
theorem RB_barred {x : Int32} (h : RB W L A com len par lik fb hb pr r) : RB W L A com len par lik (fb ||| x) hb pr (upd r 3 (r 3 ||| x)) := by
  obtain ⟨⟨b1, b2, b3⟩, ⟨h0, h1, h2, h3, h6⟩, ⟨x', y, x1, x2, y1, y2, h4, h5, hh⟩, hp, hw, hl⟩ := h
  refine ⟨⟨b1, b2, b3⟩, ?_, ⟨x', y, x1, x2, y1, y2, ?_, ?_, hh⟩, hp, fun i hi => ?_, fun i hi => ?_⟩ <;> simp (disch := omega) only [u_ne, u_eq]
  · exact ⟨h0, h1, h2, by rw [h3], h6⟩
  · exact h4
  · exact h5
  · exact hw i hi
  · exact hl i hi
theorem RB_habit {x y : Nat} (x1 : 2 ≤ x) (x2 : x ≤ 5) (y1 : 1 ≤ y) (y2 : y ≤ 4) (h : RB W L A com len par lik fb hb pr r) : RB W L A com len par lik fb (nI (10 * x + y)) pr (upd (upd r 4 (nI x)) 5 (nI y)) := by
  obtain ⟨⟨b1, b2, b3⟩, ⟨h0, h1, h2, h3, h6⟩, _, hp, hw, hl⟩ := h
  refine ⟨⟨b1, b2, b3⟩, ?_, ⟨x, y, x1, x2, y1, y2, ?_, ?_, rfl⟩, hp, fun i hi => ?_, fun i hi => ?_⟩ <;> simp (disch := omega) only [u_ne, u_eq]
  · exact ⟨h0, h1, h2, h3, h6⟩
  · exact hw i hi
  · exact hl i hi
theorem RB_like {B : Int32} (hL : L < 6) (h : RB W L A com len par lik fb hb pr r) : RB W (L + 1) A com len par (upd lik L B) fb hb pr (upd (upd r (31 + L) B) 1 (nI (L + 1))) := by
  obtain ⟨⟨b1, b2, b3⟩, ⟨h0, h1, h2, h3, h6⟩, ⟨x, y, x1, x2, y1, y2, h4, h5, hh⟩, hp, hw, hl⟩ := h
  refine ⟨⟨b1, by omega, b3⟩, ?_, ⟨x, y, x1, x2, y1, y2, ?_, ?_, hh⟩, hp, fun i hi => ?_, fun i hi => ?_⟩
  · simp (disch := omega) only [u_ne, u_eq]
    exact ⟨h0, trivial, h2, h3, h6⟩
  · simp (disch := omega) only [u_ne, u_eq]
    exact h4
  · simp (disch := omega) only [u_ne, u_eq]
    exact h5
  · simp (disch := omega) only [u_ne, u_eq]
    exact hw i hi
  · by_cases q : i = L
    · subst q
      simp (disch := omega) only [u_ne, u_eq]
    · simp (disch := omega) only [u_ne, u_eq]
      exact hl i (by omega)
theorem RB_word {y m : Nat} {b : Int32} (hW : W < 8) (y1 : 1 ≤ y) (y2 : y ≤ 9) (h : RB W L A com len par lik fb hb pr r) : RB (W + 1) L A (upd com W (nI y)) (upd len W (nI m)) (upd par W b) lik fb hb pr (wordU r W (nI y) (nI m) b) := by
  obtain ⟨⟨b1, b2, b3⟩, ⟨h0, h1, h2, h3, h6⟩, ⟨x, y', x1, x2, y1', y2', h4, h5, hh⟩, hp, hw, hl⟩ := h
  unfold wordU
  refine ⟨⟨by omega, b2, b3⟩, ?_, ⟨x, y', x1, x2, y1', y2', ?_, ?_, hh⟩, hp, fun i hi => ?_, fun i hi => ?_⟩
  · simp (disch := omega) only [u_ne, u_eq]
    exact ⟨trivial, h1, h2, h3, h6⟩
  · simp (disch := omega) only [u_ne, u_eq]
    exact h4
  · simp (disch := omega) only [u_ne, u_eq]
    exact h5
  · by_cases q : i = W
    · subst q
      simp (disch := omega) only [u_ne, u_eq]
      exact ⟨trivial, trivial, trivial, y, y1, y2, rfl⟩
    · simp (disch := omega) only [u_ne, u_eq]
      exact hw i (by omega)
  · simp (disch := omega) only [u_ne, u_eq]
    exact hl i hi
theorem RB_actor {k x co : Nat} (hA : A < 5) (h : RB W L A com len par lik fb hb pr r) : RB W L (A + 1) com len par lik fb hb pr (upd (upd (upd (upd r (37 + A) (nI k)) (42 + A) (nI x)) (47 + A) (nI co)) 2 (nI (A + 1))) := by
  obtain ⟨⟨b1, b2, b3⟩, ⟨h0, h1, h2, h3, h6⟩, ⟨x', y, x1, x2, y1, y2, h4, h5, hh⟩, hp, hw, hl⟩ := h
  refine ⟨⟨b1, b2, by omega⟩, ?_, ⟨x', y, x1, x2, y1, y2, ?_, ?_, hh⟩, hp, fun i hi => ?_, fun i hi => ?_⟩ <;> simp (disch := omega) only [u_ne, u_eq]
  · exact ⟨h0, h1, trivial, h3, h6⟩
  · exact h4
  · exact h5
  · exact hw i hi
  · exact hl i hi
theorem RA_congr {W' : Nat} (hA : A ≤ 5) (hW : W ≤ W') (h : RA W A cells r) (e : ∀ i, 37 ≤ i → i < 52 → r' i = r i) : RA W' A cells r' := by
  intro a ha
  obtain ⟨⟨k, x, co, h1, h2, h3, h4, h5, h6, h7, h8, h9⟩, hz⟩ := h a ha
  exact ⟨⟨k, x, co, h1, by omega, h3, h4, (e _ (by omega) (by omega)).trans h5, h6, (e _ (by omega) (by omega)).trans h7, h8, (e _ (by omega) (by omega)).trans h9⟩, hz⟩
theorem RA_actor {k x co : Nat} (hA : A < 5) (hk : k ≤ 3) (hx : x < W) (hco : co ≤ 99) (s : started cells cells' A (nI k) (nI x) (nI co)) (h : RA W A cells r) : RA W (A + 1) cells' (upd (upd (upd (upd r (37 + A) (nI k)) (42 + A) (nI x)) (47 + A) (nI co)) 2 (nI (A + 1))) := by
  intro a ha
  obtain ⟨s1, s2, s3, s4, s5⟩ := s
  by_cases q : a = A
  · subst q
    refine ⟨⟨k, x, co, hk, hx, hco, s1, ?_, s2, ?_, s3, ?_⟩, s4⟩ <;> simp (disch := omega) only [u_ne, u_eq]
  · obtain ⟨⟨k', x', co', h1, h2, h3, h4, h5, h6, h7, h8, h9⟩, hz⟩ := h a (by omega)
    refine ⟨⟨k', x', co', h1, h2, h3, (s5 _ (Or.inl (by omega))).trans h4, ?_, (s5 _ (Or.inl (by omega))).trans h6, ?_, (s5 _ (Or.inl (by omega))).trans h8, ?_⟩, fun j j1 j2 => (s5 _ (Or.inl (by omega))).trans (hz j j1 j2)⟩ <;> simp (disch := omega) only [u_ne, u_eq]
    · exact h5
    · exact h7
    · exact h9
theorem Out_vz {c : Nat → Int32} {a : Nat} {z1 z2 w1 w2 : Int32} {g : Prop} (o : Out c a z1 z2 w1 w2 g) : vz z1 = true ∧ vz w1 = true := by
  rcases o with ⟨o1, o2 | ⟨o2, _⟩⟩ | ⟨o1, o2, _⟩ <;> rw [o1, o2] <;> exact ⟨by decide, by decide⟩
set_option maxHeartbeats 2000000 in
theorem rd_item {t u : Nat → Int32} {n a : Nat} (v : Int32) (hn : n ≤ 200) (ha : a < 400) (hc : ch u n = ch t n) (hB : RB W L A com len par lik fb hb pr r) (hR : RA W A cells r) : ∃ z, sX3_readItem 200 t (nI n) (nI a) com len par lik (nI W) (nI L) (nI A) fb hb pr cells = some z ∧ ∃ w, sX9_readsItem r u (nI n) (nI a) v = some w ∧ Out (ch t n) (a + 1) z.1 z.2.1 w.1 w.2.2.1 (RZ z.2.2 w.2.1) := by
  have hB' := hB
  obtain ⟨⟨b1, b2, b3⟩, ⟨h0, h1, h2, h3, h6⟩, -⟩ := hB'
  unfold sX3_readItem sX9_readsItem
  rw [e_peek (by omega) (by decide) (by omega), e_here hn (by omega), v_b, v_b, v_l, v_l, nI_add]
  simp only [v_i, he_ch (show 0 < (nI 97).toInt by decide), he_ch (show 0 < (nI 104).toInt by decide), he_ch (show 0 < (nI 108).toInt by decide), he_ch (show 0 < (nI 114).toInt by decide), he_ch (show 0 < (nI 119).toInt by decide), he_ch (show 0 < (nI 120).toInt by decide), hc]
  by_cases k1 : ch t n a = nI 97
  · rw [if_pos k1, if_pos k1]
    obtain ⟨z, z1, w, w1, o⟩ := it_actor (a := a + 1) v r cells b1 b3 h0 h2 hn (by omega) hc
    rw [z1, w1, v_b, v_b, (Out_vz o).1, (Out_vz o).2, v_g1, v_g1]
    refine ⟨_, rfl, _, rfl, Out_mono (Nat.le_refl _) ?_ o⟩
    rintro ⟨g1, k, x, co, g2, g3, g4, g5, g6, g7⟩
    refine ⟨W, L, A + 1, rfl, rfl, g5, ?_, ?_⟩ <;> dsimp only <;> rw [g7]
    · exact RB_actor g1 hB
    · exact RA_actor g1 g2 g3 g4 g6 hR
  rw [if_neg k1, if_neg k1]
  by_cases k2 : ch t n a = nI 104
  · rw [if_pos k2, if_pos k2]
    obtain ⟨z, z1, w, w1, o⟩ := it_habit (a := a + 1) v r hb hn (by omega) hc
    rw [z1, w1, v_b, v_b, (Out_vz o).1, (Out_vz o).2, v_g1, v_g1]
    refine ⟨_, rfl, _, rfl, Out_mono (Nat.le_refl _) ?_ o⟩
    rintro ⟨x, y, x1, x2, y1, y2, g1, g2⟩
    refine ⟨W, L, A, rfl, rfl, rfl, ?_, ?_⟩ <;> dsimp only <;> rw [g2]
    · rw [g1]
      exact RB_habit x1 x2 y1 y2 hB
    · refine RA_congr b3 (Nat.le_refl _) hR (fun i i1 i2 => ?_)
      simp (disch := omega) only [u_ne]
  rw [if_neg k2, if_neg k2]
  by_cases k3 : ch t n a = nI 108
  · rw [if_pos k3, if_pos k3]
    obtain ⟨z, z1, w, w1, o⟩ := it_like (a := a + 1) r lik b1 b2 h0 h1 hn (by omega) hc
    rw [z1, w1, v_b, v_b, (Out_vz o).1, (Out_vz o).2, v_g1, v_g1]
    refine ⟨_, rfl, _, rfl, Out_mono (Nat.le_refl _) ?_ o⟩
    rintro ⟨g1, B, g2, g3, g4⟩
    refine ⟨W, L + 1, A, rfl, g3, rfl, ?_, ?_⟩ <;> dsimp only <;> rw [g4]
    · rw [g2]
      exact RB_like g1 hB
    · refine RA_congr b3 (Nat.le_refl _) hR (fun i i1 i2 => ?_)
      simp (disch := omega) only [u_ne]
  rw [if_neg k3, if_neg k3]
  by_cases k4 : ch t n a = nI 114
  · rw [if_pos k4, if_pos k4]
    obtain ⟨z, z1, w, w1, o⟩ := it_price (a := a + 1) v r pr hn (by omega) hc
    rw [z1, w1, v_b, v_b, (Out_vz o).1, (Out_vz o).2, v_g1, v_g1]
    refine ⟨_, rfl, _, rfl, Out_mono (Nat.le_refl _) ?_ o⟩
    rintro ⟨⟨p, p1, p2⟩, g2⟩
    refine ⟨W, L, A, rfl, rfl, rfl, ?_, ?_⟩ <;> dsimp only <;> rw [g2, p2]
    · exact RB_price p1 hB
    · refine RA_congr b3 (Nat.le_refl _) hR (fun i i1 i2 => ?_)
      simp (disch := omega) only [u_ne]
  rw [if_neg k4, if_neg k4]
  by_cases k5 : ch t n a = nI 119
  · rw [if_pos k5, if_pos k5]
    obtain ⟨z, z1, w, w1, o⟩ := it_word (a := a + 1) v r com len par b1 h0 hn (by omega) hc
    rw [z1, w1, v_b, v_b, (Out_vz o).1, (Out_vz o).2, v_g1, v_g1]
    refine ⟨_, rfl, _, rfl, Out_mono (Nat.le_refl _) ?_ o⟩
    rintro ⟨g1, y, m, b, y1, y2, m1, m2, g2, g3, g4, g5, g6⟩
    refine ⟨W + 1, L, A, g5, rfl, rfl, ?_, ?_⟩ <;> dsimp only <;> rw [g6]
    · rw [g2, g3, g4]
      exact RB_word g1 y1 y2 hB
    · refine RA_congr b3 (by omega) hR (fun i i1 i2 => ?_)
      unfold wordU
      simp (disch := omega) only [u_ne]
  rw [if_neg k5, if_neg k5]
  by_cases k6 : ch t n a = nI 120
  · rw [if_pos k6, if_pos k6]
    obtain ⟨z, z1, w, w1, o⟩ := it_barred (a := a + 1) v r fb hn (by omega) hc
    rw [z1, w1, v_b, v_b, (Out_vz o).1, (Out_vz o).2, v_g1, v_g1]
    refine ⟨_, rfl, _, rfl, Out_mono (Nat.le_refl _) ?_ o⟩
    rintro ⟨x, g1, g2⟩
    refine ⟨W, L, A, rfl, rfl, rfl, ?_, ?_⟩ <;> dsimp only <;> rw [g2]
    · rw [g1]
      exact RB_barred hB
    · refine RA_congr b3 (Nat.le_refl _) hR (fun i i1 i2 => ?_)
      simp (disch := omega) only [u_ne]
  rw [if_neg k6, if_neg k6]
  exact ⟨_, rfl, _, rfl, Or.inl ⟨rfl, Or.inl rfl⟩⟩
end RBROWS
set_option maxHeartbeats 2000000 in
theorem rd_loop {t u : Nat → Int32} {n : Nat} (hn : n ≤ 200) (hc : ch u n = ch t n) : ∀ (d f1 f2 it a W L A : Nat) (com len par lik : Nat → Int32) (fb hb pr : Int32) (cells r : Nat → Int32) (v : Int32), d = n - a → a ≤ n → it ≤ a → d < f1 → d < f2 → RB W L A com len par lik fb hb pr r → RA W A cells r → ∃ z, LX3_firstFault_27 (nI n) t 200 f1 (nI it) (nI a) com len par lik (nI W) (nI L) (nI A) fb hb pr cells = some z ∧ ∃ w, LX9_reads_48 u (nI n) f2 r (nI a) v = some w ∧ z.1 = w.1 ∧ (z.1 = -4 → RZ z.2.2.2 w.2.1) := by
  intro d
  induction d using Nat.strongRecOn with
  | ind d ih =>
    intro f1 f2 it a W L A com len par lik fb hb pr cells r v q1 q2 q3 q4 q5 hB hR
    obtain ⟨g1, rfl⟩ : ∃ f, f1 = f + 1 := ⟨f1 - 1, by omega⟩
    obtain ⟨g2, rfl⟩ : ∃ f, f2 = f + 1 := ⟨f2 - 1, by omega⟩
    rw [LX3_firstFault_27, LX9_reads_48, v_i, v_i, v_i]
    by_cases h : n ≤ a
    · rw [if_pos (show nI n ≤ nI a from by rw [n_le (by omega) (by omega)]; exact h), if_pos (show nI n ≤ nI a from by rw [n_le (by omega) (by omega)]; exact h)]
      have e : ∀ (x : Option (Int32 × Int32 × Int32 × (Nat → Int32) × (Nat → Int32) × (Nat → Int32) × (Nat → Int32) × Int32 × Int32 × Int32 × Int32 × Int32 × Int32 × (Nat → Int32))), (if nI 200 ≤ nI it then x else x) = x := by
        intro x
        by_cases q : nI 200 ≤ nI it
        · rw [if_pos q]
        · rw [if_neg q]
      rw [e]
      exact ⟨_, rfl, _, rfl, rfl, fun _ => ⟨W, L, A, rfl, rfl, rfl, hB, hR⟩⟩
    · rw [if_neg (show ¬ nI 200 ≤ nI it from by rw [n_le (by decide) (by omega)]; omega), if_neg (show ¬ nI n ≤ nI a from by rw [n_le (by omega) (by omega)]; exact h), if_neg (show ¬ nI n ≤ nI a from by rw [n_le (by omega) (by omega)]; exact h)]
      obtain ⟨z, z1, w, w1, o⟩ := rd_item v hn (show a < 400 by omega) hc hB hR
      rw [z1, w1, v_b, v_b, v_i, v_i]
      rcases o with ⟨o1, o2 | ⟨o2, b, o3, o4, o5⟩⟩ | ⟨o1, o2, b, o3, o4, o5, o6, o7⟩
      · rw [o1, o2, if_pos nI_0, if_pos nI_0]
        exact ⟨_, rfl, _, rfl, rfl, fun q => absurd q (by show ¬ nI a = -4; rw [n_eqm (by omega)]; exact id)⟩
      · rw [o1, o2, if_pos nI_0, if_neg (show ¬ nI 1 = 0 from by decide), o4, e_take (by decide) hn (by omega), hc, if_neg o5, v_b, v_i, if_pos nI_0]
        exact ⟨_, rfl, _, rfl, rfl, fun q => absurd q (by show ¬ nI a = -4; rw [n_eqm (by omega)]; exact id)⟩
      · have hbn : b < n := by
          by_cases p : b < n
          · exact p
          · rw [ch_out p] at o5
            exact absurd o5 (by decide)
        rw [o1, o2, if_neg (show ¬ nI 1 = 0 from by decide), if_neg (show ¬ nI 1 = 0 from by decide), o4, e_take (by decide) hn (by omega), hc, if_pos o5, if_pos o5, v_b, v_i, if_neg (show ¬ nI 1 = 0 from by decide), v_l, nI_add, o6]
        obtain ⟨W', L', A', e1, e2, e3, hB', hR'⟩ := o7
        rw [e1, e2, e3]
        exact ih (n - (b + 1)) (by omega) g1 g2 (it + 1) (b + 1) W' L' A' _ _ _ _ _ _ _ _ _ _ rfl (by omega) (by omega) (by omega) (by omega) hB' hR'
theorem rd_zero {u : Nat → Int32} {n : Nat} (v : Int32) : ∀ (d fuel i : Nat) (r : Nat → Int32), d = 52 - i → i ≤ 52 → d < fuel → (∀ j, j < i → r j = nI 0) → ∃ r', LX9_reads_2 u (nI n) v fuel (nI i) r = LX9_reads_48 u (nI n) vF r' (nI 0) v ∧ (∀ j, j < 4 → r' j = nI 0) ∧ r' 4 = nI 3 ∧ r' 5 = nI 2 ∧ r' 6 = nI 2 := by
  intro d
  induction d with
  | zero =>
    intro fuel i r q1 q2 q3 q4
    obtain ⟨f, rfl⟩ : ∃ f, fuel = f + 1 := ⟨fuel - 1, by omega⟩
    rw [LX9_reads_2, v_i, if_pos (show nI 52 ≤ nI i from by rw [n_le (by decide) (by omega)]; omega)]
    simp (disch := omega) only [v_l, n_cl]
    refine ⟨_, rfl, fun j hj => ?_, ?_, ?_, ?_⟩ <;> simp (disch := omega) only [u_ne, u_eq]
    exact q4 j (by omega)
  | succ d ih =>
    intro fuel i r q1 q2 q3 q4
    obtain ⟨f, rfl⟩ : ∃ f, fuel = f + 1 := ⟨fuel - 1, by omega⟩
    rw [LX9_reads_2, v_i, if_neg (show ¬ nI 52 ≤ nI i from by rw [n_le (by decide) (by omega)]; omega)]
    simp (disch := omega) only [v_l, n_cl, v_g, nI_add]
    refine ih f (i + 1) _ (by omega) (by omega) (by omega) (fun j hj => ?_)
    by_cases p : j = i
    · rw [u_eq p]
    · rw [u_ne p]; exact q4 j (by omega)
theorem rd_eq {t u : Nat → Int32} {n : Nat} (hn : n ≤ 200) (hc : ch u n = ch t n) (fe fa : Int32) (com len par lik : Nat → Int32) (wc lc ac fb hb pr : Int32) (cells r : Nat → Int32) (a v : Int32) : ∃ z, sX3_firstFault 200 fe fa t com len par lik wc lc ac fb hb pr cells (nI n) = some z ∧ ∃ w, sX9_reads r u (nI n) a v = some w ∧ z.1 = w.1 ∧ (z.1 = -4 → RZ z.2.2.2 w.2.1) := by
  unfold sX3_firstFault sX9_reads sX0_clear
  rw [v_l, v_l, v_b, if_neg (show ¬ nI 200 < nI n from by rw [n_lt (by decide) (by omega)]; omega)]
  obtain ⟨r', e, h1, h2, h3, h4⟩ := rd_zero (u := u) (n := n) v 52 vF 0 r rfl (by omega) (by decide) (fun j hj => absurd hj (by omega))
  rw [e]
  exact rd_loop hn hc n vF vF 0 0 0 0 0 com len par lik (nI 0) (nI 32) (nI 2) cells r' v rfl (by omega) (by omega) (by show n < 20000; omega) (by show n < 20000; omega) ⟨⟨by omega, by omega, by omega⟩, ⟨h1 0 (by omega), h1 1 (by omega), h1 2 (by omega), h1 3 (by omega), h4⟩, ⟨3, 2, by omega, by omega, by omega, by omega, h2, h3, rfl⟩, ⟨2, by omega, rfl⟩, fun i hi => absurd hi (by omega), fun i hi => absurd hi (by omega)⟩ (fun a ha => absurd ha (by omega))

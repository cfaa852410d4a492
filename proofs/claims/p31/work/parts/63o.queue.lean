/-! values: QUEUE on both sides -/
section QUEUEB
variable {W L A : Nat} {com len par lik : Nat → Int32} {fb hb pr : Int32} {r sc gn : Nat → Int32}
theorem sel_len {u : Nat → Nat} {d : Nat} {l : List Nat} (h : l.length = d) : (sel u d l).length = d := by
  have h1 := bst_sel (u := u) (n := d) d l h (Nat.le_refl d)
  have h2 := (bst_ok (cq u d) d (d - d) l h).1
  rw [h1] at h2
  exact h2
theorem sel_rs {u : Nat → Nat} (k : Nat) : sel u (k + 1) (List.range (k + 1)) = ins u k (sel u k (List.range k)) := by
  rw [List.range_succ]
  exact sel_ins k (List.range k) List.length_range (by rw [List.mem_range]; omega)
def CW (com len par lik : Nat → Int32) (W L A : Nat) (fb hb : Int32) (sc : Nat → Int32) (C : Nat → Nat → Nat) (wt : Nat → Nat) : Prop := ∀ a, a < A → ∀ (fr fc ws row ln sgs : Nat → Int32) (wo fo op : Int32), ∃ z, sX8_fewestForWanted com len par lik (nI W) (nI L) fb hb sc fr fc ws row ln sgs wo fo op (nI a) = some z ∧ ((z.1 = -4 ∧ C a (wt a) = 9) ∨ ∃ m, m ≤ 3 ∧ z.1 = nI m ∧ C a (wt a) = m)
theorem CW_ok {p q : Nat} (hB : RB W L A com len par lik fb (nI (10 * p + q)) pr r) (hS : SR W L A r sc gn) (hp : p ≤ 5) (hq : q ≤ 4) (h4 : r 4 = nI p) (h5 : r 5 = nI q) {wn : Nat → Nat} (hg : ∀ a, a < A → sc (a * 11 + 1) = nI (wn a) ∧ gn a = nI (wn a) ∧ wn a < W) : CW com len par lik W L A fb (nI (10 * p + q)) sc (cF r gn) wn := by
  intro a ha fr fc ws row ln sgs wo fo op
  have A5 := hB.1.2.2
  have W8 := hB.1.1
  obtain ⟨kd, x, co, sh, gu, st, sg, hb', hv⟩ := hS.1 a ha
  obtain ⟨z, v, ws', tr', row', z1, z2, z3, z4⟩ := e_fw fr fc ws row ln sgs (fun _ => 0) (fun _ => 0) (fun _ => 0) wo fo op hB hp hq h4 h5 (show a < 5 by omega) hb' hv
  obtain ⟨g1, g2, g3⟩ := hg a ha
  have hx := hb'.2.1
  have e : x = wn a := (nI_eq (by omega) (by omega)).1 (hv.2.1.2.symm.trans g2)
  subst e
  refine ⟨z, z1, ?_⟩
  rw [z3]
  exact cF_at z2 z4
set_option maxHeartbeats 2000000 in
theorem q16 {x : Int32} {f : Nat → Bool} {wt : Nat → Nat} {C : Nat → Nat → Nat} (hA : A ≤ 5) (hCW : CW com len par lik W L A fb hb sc C wt) (hN : ∀ a w, C a w ≤ 9) (hf : ∀ a, a < A → sX4_waits sc (nI a) = some (if f a then nI 1 else nI 0)) : ∀ (d fuel a : Nat) (L0 : List Nat) (fr fc ws row ln sgs : Nat → Int32) (wo fo op : Int32) (acts mins : Nat → Int32), d = A - a → a ≤ A → d < fuel → L0 ++ lst f d a = lst f A 0 → LR (lst f A 0) (fun j => uT C wt ((lst f A 0).getD j 0)) (sel (fun j => uT C wt ((lst f A 0).getD j 0)) L0.length (List.range L0.length)) acts mins → srt (fun j => uT C wt ((lst f A 0).getD j 0)) (sel (fun j => uT C wt ((lst f A 0).getD j 0)) L0.length (List.range L0.length)) → ∃ z acts' mins', LX8_queue_16 x com len par lik (nI W) (nI L) (nI A) fb hb sc fuel (nI a) fr fc ws row ln sgs wo fo op acts mins (nI L0.length) = some z ∧ LR (lst f A 0) (fun j => uT C wt ((lst f A 0).getD j 0)) (sel (fun j => uT C wt ((lst f A 0).getD j 0)) (lst f A 0).length (List.range (lst f A 0).length)) acts' mins' ∧ (x = -1 → sX2_waited mins' (nI (lst f A 0).length) = some z.1) ∧ (¬ x = -1 → sX2_actorAt acts' (nI (lst f A 0).length) x = some z.1) := by
  have hlen := lst_len f A 0
  intro d
  induction d with
  | zero =>
    intro fuel a L0 fr fc ws row ln sgs wo fo op acts mins q1 q2 q3 q4 q5 q6
    obtain ⟨g, rfl⟩ : ∃ f, fuel = f + 1 := ⟨fuel - 1, by omega⟩
    have q4 : L0 = lst f A 0 := by rw [← q4]; exact (List.append_nil _).symm
    subst q4
    have hs : (sel (fun j => uT C wt ((lst f A 0).getD j 0)) (lst f A 0).length (List.range (lst f A 0).length)).length = (lst f A 0).length := sel_len List.length_range
    rw [LX8_queue_16, sX0_actors, v_b, vi_p (show nI A ≤ nI a from by rw [n_le (by omega) (by omega)]; omega)]
    by_cases e : x = -1
    · have w := w6 (mins := mins) (n := (lst f A 0).length) (by omega) hs q5 (lst f A 0).length vF 0 0 0 rfl (by omega) (by show (lst f A 0).length < 20000; omega)
      rw [vi_p e, show sX2_waited mins (nI (lst f A 0).length) = _ from w, v_b]
      exact ⟨_, acts, mins, rfl, q5, fun _ => w, fun h => absurd e h⟩
    · rw [vi_n e]
      have h : ∃ y, sX2_actorAt acts (nI (lst f A 0).length) x = some y := by
        unfold sX2_actorAt
        by_cases c1 : x < 0
        · rw [vi_p c1]; exact ⟨_, rfl⟩
        · rw [vi_n c1]
          by_cases c2 : nI (lst f A 0).length ≤ x
          · rw [vi_p c2]; exact ⟨_, rfl⟩
          · rw [vi_n c2]
            rw [i_lt, i_0] at c1
            rw [i_le, i_nI _ (by omega)] at c2
            obtain ⟨k, hk, rfl⟩ := n_ofN (x := x) (N := (lst f A 0).length) (by omega) (by omega)
            rw [vi_n (show ¬ nI 5 ≤ nI k from by rw [n_le (by omega) (by omega)]; omega), v_g (by omega) (by omega)]
            exact ⟨_, rfl⟩
      obtain ⟨y, hy⟩ := h
      rw [hy, v_b]
      exact ⟨_, acts, mins, rfl, q5, fun h => absurd h e, fun _ => hy⟩
  | succ d ih =>
    intro fuel a L0 fr fc ws row ln sgs wo fo op acts mins q1 q2 q3 q4 q5 q6
    obtain ⟨g, rfl⟩ : ∃ f, fuel = f + 1 := ⟨fuel - 1, by omega⟩
    have b1 : d = A - (a + 1) := by omega
    have b2 : a + 1 ≤ A := by omega
    have b3 : d < g := by omega
    rw [LX8_queue_16, sX0_actors, v_b, vi_n (show ¬ nI A ≤ nI a from by rw [n_le (by omega) (by omega)]; omega), hf a (by omega), v_b]
    cases e : f a with
    | true =>
      rw [lst_y e] at q4
      have hk : L0.length < (lst f A 0).length := by rw [← q4, List.length_append, List.length_cons]; omega
      have hga : (lst f A 0).getD L0.length 0 = a := by rw [← q4, List.getD_eq_getElem?_getD, List.getElem?_append_right (Nat.le_refl _), Nat.sub_self]; rfl
      rw [if_pos rfl, vi_n n10]
      obtain ⟨z, z1, z2⟩ := hCW a (by omega) fr fc ws row ln sgs wo fo op
      obtain ⟨acts', mins', a1, a2⟩ := e_add2 (a := a) (k := L0.length) (l := lst f A 0) (u := fun j => uT C wt ((lst f A 0).getD j 0)) (by omega) (fun j => uT_le hN _) (sel_len List.length_range) q6 hga q5
      rw [← sel_rs] at a2
      have hl1 : (L0 ++ [a]).length = L0.length + 1 := by rw [List.length_append]; rfl
      have hsr : srt (fun j => uT C wt ((lst f A 0).getD j 0)) (sel (fun j => uT C wt ((lst f A 0).getD j 0)) (L0.length + 1) (List.range (L0.length + 1))) := by rw [sel_rs]; exact ins_srt q6
      rw [hga] at a1
      have key : ∀ (fr fc ws row ln sgs : Nat → Int32) (wo fo op : Int32), ∃ z acts'' mins'', LX8_queue_16 x com len par lik (nI W) (nI L) (nI A) fb hb sc g (nI (a + 1)) fr fc ws row ln sgs wo fo op acts' mins' (nI (L0.length + 1)) = some z ∧ LR (lst f A 0) (fun j => uT C wt ((lst f A 0).getD j 0)) (sel (fun j => uT C wt ((lst f A 0).getD j 0)) (lst f A 0).length (List.range (lst f A 0).length)) acts'' mins'' ∧ (x = -1 → sX2_waited mins'' (nI (lst f A 0).length) = some z.1) ∧ (¬ x = -1 → sX2_actorAt acts'' (nI (lst f A 0).length) x = some z.1) := by
        intro fr fc ws row ln sgs wo fo op
        have := ih g (a + 1) (L0 ++ [a]) fr fc ws row ln sgs wo fo op acts' mins' b1 b2 b3 (by rw [List.append_assoc]; exact q4) (by rw [hl1]; exact a2) (by rw [hl1]; exact hsr)
        rw [hl1] at this
        exact this
      rw [z1, v_b]
      rcases z2 with ⟨e1, e2⟩ | ⟨m, m1, e1, e2⟩
      · rw [vi_p e1, show nI 5 = nI (uT C wt a) from by unfold uT; rw [if_pos e2], a1, v_b]
        simp only [v_l, nI_add]
        exact key _ _ _ _ _ _ _ _ _
      · rw [vi_n (show ¬ z.1 = -4 from by rw [e1]; exact m4 (by omega)), show nI 1 + z.1 = nI (uT C wt a) from by unfold uT; rw [if_neg (by omega), e1, e2, nI_add], a1, v_b]
        simp only [v_l, nI_add]
        exact key _ _ _ _ _ _ _ _ _
    | false =>
      rw [lst_n e] at q4
      rw [if_neg (by decide), vi_p nI_0]
      simp only [v_l, nI_add]
      exact ih g (a + 1) L0 _ _ _ _ _ _ _ _ _ _ _ b1 b2 b3 q4 q5 q6
set_option maxHeartbeats 2000000 in
theorem q_queue (fr fc wt row ln sgs ws tr rw' la lm who ord bo costs : Nat → Int32) (wo fo op lu : Int32) (hB : RB W L A com len par lik fb hb pr r) (hS : SR W L A r sc gn) (x : Int32) : ∃ u, sX8_queue com len par lik (nI W) (nI L) (nI A) fb hb sc fr fc wt row ln sgs wo fo op la lm lu x = some u ∧ ∃ w, sX9_queue r gn ws tr rw' who ord bo costs x = some w ∧ u.1 = w.1 := by
  obtain ⟨⟨W8, L6, A5⟩, ⟨h0, h1, h2, h3, h6⟩, ⟨p, q, p1, p2, q1, q2, h4, h5, hh⟩, -⟩ := id hB
  subst hh
  have hCO := CO_ok hB hS p2 q2 h4 h5
  have hN : ∀ a w, cF r gn a w ≤ 9 := cF_le r gn
  obtain ⟨f, hf⟩ : ∃ f : Nat → Bool, ∀ a, a < A → sX4_waits sc (nI a) = some (if f a then nI 1 else nI 0) ∧ sX9_waits gn (nI a) = some (if f a then nI 1 else nI 0) := by
    refine bothB (fun a ha => ?_)
    obtain ⟨kd, x, co, sh, gu, st, sg, hb', hv⟩ := hS.1 a ha
    rw [e_waits4 (show a < 5 by omega) hb'.2.2.2.2.2.1 hv.2.2.2.2.2.1.1, e_waits9 (show a < 5 by omega) hb'.2.2.2.2.2.1 hv.2.2.2.2.2.1.2]
    by_cases c : st = 0
    · rw [if_pos c]; exact Or.inl ⟨rfl, rfl⟩
    · rw [if_neg c]; exact Or.inr ⟨rfl, rfl⟩
  obtain ⟨wn, hg⟩ : ∃ wn : Nat → Nat, ∀ a, a < A → sc (a * 11 + 1) = nI (wn a) ∧ gn a = nI (wn a) ∧ wn a < W := by
    refine ⟨fun a => (gn a).toNatClampNeg, fun a ha => ?_⟩
    obtain ⟨kd, x, co, sh, gu, st, sg, hb', hv⟩ := hS.1 a ha
    have hx := hb'.2.1
    dsimp only
    rw [hv.2.1.1, hv.2.1.2, n_cl (show x < 2147483648 by omega)]
    exact ⟨rfl, rfl, hx⟩
  have hCW := CW_ok hB hS p2 q2 h4 h5 hg
  have hlen := lst_len f A 0
  have hlt : ∀ j, j < (lst f A 0).length → (lst f A 0).getD j 0 < A := fun j hj => by
    have := (lst_mem (mem_g _ _ hj)).2.1
    omega
  unfold sX8_queue sX9_queue
  by_cases c : -1 ≤ x
  · rw [vi_p c, vi_p c, sX2_start, v_b]
    obtain ⟨z, acts', mins', z1, z2, z3, z4⟩ := q16 (x := x) (f := f) (wt := wn) (C := cF r gn) (W := W) A5 hCW hN (fun a ha => (hf a ha).1) A vF 0 [] fr fc wt row ln sgs wo fo op la lm rfl (by omega) (by show A < 20000; omega) rfl (fun j hj => absurd hj (Nat.not_lt_zero j)) trivial
    refine ⟨z, z1, ?_⟩
    obtain ⟨who', w1, -, w3⟩ := wait9 (f := f) A5 h2 (fun a ha => (hf a ha).2) A vF 0 0 who rfl (by omega) (by show A < 20000; omega) (by omega)
    rw [Nat.zero_add] at w1
    have w3 : ∀ j, j < (lst f A 0).length → who' j = nI ((lst f A 0).getD j 0) := fun j hj => by
      have := w3 j hj
      rw [Nat.zero_add] at this
      exact this
    obtain ⟨ws', tr', row', ord', bo', co', e1, e2, e3⟩ := q2_loop (n := (lst f A 0).length) (l := lst f A 0) (wt := wn) (C := cF r gn) (who := who') (order := ord) (bo := bo) A5 (by omega) hCO hlt w3 (fun a ha => (hg a ha).2) hN (lst f A 0).length vF 0 ws tr rw' costs rfl (by omega) (by show (lst f A 0).length < 20000; omega) (fun j hj => absurd hj (Nat.not_lt_zero j))
    have hs : (sel (fun j => uT (cF r gn) wn ((lst f A 0).getD j 0)) (lst f A 0).length (List.range (lst f A 0).length)).length = (lst f A 0).length := sel_len List.length_range
    unfold sX9_waitingOnes sX9_queues
    rw [w1, v_b]
    dsimp only
    rw [e1, v_b]
    dsimp only
    by_cases d : x = -1
    · rw [vi_p d]
      refine ⟨_, rfl, ?_⟩
      have w := w6 (mins := mins') (n := (lst f A 0).length) (by omega) hs z2 (lst f A 0).length vF 0 0 0 rfl (by omega) (by show (lst f A 0).length < 20000; omega)
      have := Option.some.inj ((z3 d).symm.trans w)
      rw [this, List.drop_zero, Nat.zero_add]
    · rw [vi_n d]
      have hx0 : 0 ≤ x.toInt := by
        rw [i_le] at c
        have : ¬ x.toInt = -1 := fun h => d (Int32.toInt_inj.1 (h.trans i_m1.symm))
        rw [i_m1] at c
        omega
      have hz := z4 d
      unfold sX2_actorAt at hz
      rw [vi_n (show ¬ x < 0 from by rw [i_lt, i_0]; omega)] at hz
      by_cases g : nI (lst f A 0).length ≤ x
      · rw [vi_p g] at hz ⊢
        exact ⟨_, rfl, (Option.some.inj hz).symm⟩
      · rw [vi_n g] at hz ⊢
        rw [i_le, i_nI _ (by omega)] at g
        obtain ⟨k, hk, rfl⟩ := n_ofN (x := x) (N := (lst f A 0).length) hx0 (by omega)
        rw [vi_n (show ¬ nI 5 ≤ nI k from by rw [n_le (by omega) (by omega)]; omega), v_g (by omega) (by omega), n_cl (show k < 2147483648 by omega), (z2 k (by omega)).1] at hz
        have hk2 := (okL_l e3).2 k hk
        rw [v_g (show k < 5 by omega) (by omega), n_cl (show k < 2147483648 by omega), e2 k hk, show oL (sel (fun j => uT (cF r gn) wn ((lst f A 0).getD j 0)) (lst f A 0).length (List.range (lst f A 0).length)) k = nI ((sel (fun j => uT (cF r gn) wn ((lst f A 0).getD j 0)) (lst f A 0).length (List.range (lst f A 0).length)).getD k 0) from rfl, v_g (by omega) (by omega), n_cl (by omega), w3 _ hk2]
        exact ⟨_, rfl, (Option.some.inj hz).symm⟩
  · rw [vi_n c, vi_n c]
    exact ⟨_, rfl, _, rfl, rfl⟩
end QUEUEB

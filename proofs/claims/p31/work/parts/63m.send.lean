/-! values: SEND -/
section SEND
variable {W L A : Nat} {com len par lik : Nat → Int32} {fb hb pr : Int32} {r sc gn : Nat → Int32}
/-- the words that are left -/
def bl (n S : Nat) : List Nat := lst S.testBit n 0
def bitOK (n S j : Nat) : Bool := (sJ6_bitCount_0f7a4 (nI S) == some (nI (bl n S).length)) && (if S.testBit j then ((nI S >>> (nI j &&& 31)) &&& nI 1 == nI 1) && (nI S &&& ((nI 1 <<< (nI j &&& 31)) ^^^ (-1)) == nI (S - 2 ^ j)) && (bl n (S - 2 ^ j) == (bl n S).erase j) && decide (2 ^ j ≤ S) else !((nI S >>> (nI j &&& 31)) &&& nI 1 == nI 1))
set_option maxRecDepth 1000000 in
theorem bits_ok : ∀ n, n < 6 → ∀ S, S < 2 ^ n → ∀ j, j < 5 → bitOK n S j = true := by decide +kernel
theorem bits_n : ∀ n, n < 6 → nI 1 <<< (nI n &&& 31) = nI (2 ^ n) ∧ 2 ^ n ≤ 32 ∧ 1 ≤ 2 ^ n ∧ bl n (2 ^ n - 1) = List.range n := by decide +kernel
theorem bits_1 : ∀ n, n < 6 → ∀ S, S < 2 ^ n → 1 ≤ S → 1 ≤ (bl n S).length := by decide +kernel
theorem bits_c {n S : Nat} (hn : n ≤ 5) (hS : S < 2 ^ n) : sJ6_bitCount_0f7a4 (nI S) = some (nI (bl n S).length) := by
  have h := bits_ok n (by omega) S hS 0 (by omega)
  unfold bitOK at h
  rw [Bool.and_eq_true] at h
  exact eq_of_beq h.1
theorem bits_y {n S j : Nat} (hn : n ≤ 5) (hS : S < 2 ^ n) (hj : j < n) (hb : S.testBit j = true) : (nI S >>> (nI j &&& 31)) &&& nI 1 = nI 1 ∧ nI S &&& ((nI 1 <<< (nI j &&& 31)) ^^^ (-1)) = nI (S - 2 ^ j) ∧ bl n (S - 2 ^ j) = (bl n S).erase j ∧ 2 ^ j ≤ S := by
  have h := bits_ok n (by omega) S hS j (by omega)
  unfold bitOK at h
  rw [if_pos hb] at h
  simp only [Bool.and_eq_true, beq_iff_eq, decide_eq_true_eq] at h
  exact ⟨h.2.1.1.1, h.2.1.1.2, h.2.1.2, h.2.2⟩
theorem bits_no {n S j : Nat} (hn : n ≤ 5) (hS : S < 2 ^ n) (hj : j < n) (hb : S.testBit j = false) : ¬ (nI S >>> (nI j &&& 31)) &&& nI 1 = nI 1 := by
  have h := bits_ok n (by omega) S hS j (by omega)
  unfold bitOK at h
  rw [if_neg (by rw [hb]; decide), Bool.and_eq_true, Bool.not_eq_true'] at h
  intro e
  rw [e] at h
  exact absurd h.2 (by decide)
/-- the least that the actors who are left come to -/
def vS (c : Nat → Nat → Nat) (n S : Nat) : Nat := (bst c (bl n S).length (n - (bl n S).length) (bl n S)).1
def gS (c : Nat → Nat → Nat) (n S j : Nat) : Nat := c (n - (bl n S).length) j + (bst c ((bl n S).length - 1) (n - (bl n S).length + 1) ((bl n S).erase j)).1
theorem gS_le {c : Nat → Nat → Nat} (h : ∀ i j, c i j ≤ 9) {n S j : Nat} (hn : n ≤ 5) : gS c n S j ≤ 60 := by
  have h1 := h (n - (bl n S).length) j
  have h2 := bst_le h ((bl n S).length - 1) (n - (bl n S).length + 1) ((bl n S).erase j)
  have h3 := lst_len S.testBit n 0
  have h3 : (bl n S).length ≤ n := h3
  unfold gS
  omega
theorem e_sumWith {n S j : Nat} {costs least : Nat → Int32} {c : Nat → Nat → Nat} (hn : n ≤ 5) (hS : S < 2 ^ n) (hj : j < n) (hb : S.testBit j = true) (hc : ∀ i j, i < n → j < n → costs (i * 5 + j) = nI (c i j)) (hl : ∀ T, T < S → least T = nI (vS c n T)) : sX1_sumWith costs least (nI n) (nI S) (nI j) = some (nI (gS c n S j)) := by
  obtain ⟨b1, b2, b3, b4⟩ := bits_y hn hS hj hb
  obtain ⟨-, n1, n2, -⟩ := bits_n n (by omega)
  have hm : j ∈ bl n S := lst_in (by omega) (by omega) hb
  have h3 : (bl n S).length ≤ n := lst_len S.testBit n 0
  have h4 : 1 ≤ (bl n S).length := List.length_pos_of_mem hm
  have h5 : (bl n (S - 2 ^ j)).length = (bl n S).length - 1 := by rw [b3, List.length_erase_of_mem hm]
  have h6 : 1 ≤ 2 ^ j := Nat.one_le_two_pow
  have hv : vS c n (S - 2 ^ j) = (bst c ((bl n S).length - 1) (n - (bl n S).length + 1) ((bl n S).erase j)).1 := by
    unfold vS
    rw [h5, b3, show n - ((bl n S).length - 1) = n - (bl n S).length + 1 by omega]
  have hc' := hc (n - (bl n S).length) j (by omega) hj
  have hl' := hl (S - 2 ^ j) (by omega)
  rw [hv] at hl'
  unfold sX1_sumWith
  rw [bits_c hn hS, v_b, n_sub h3, b2]
  simp only [v_l]
  rw [n_mul, nI_add, vi_n (show ¬ nI ((n - (bl n S).length) * 5 + j) < 0 from nI_pos (by omega)), vi_n (show ¬ nI 25 ≤ nI ((n - (bl n S).length) * 5 + j) from by rw [n_le (by omega) (by omega)]; omega), vi_n (show ¬ nI (S - 2 ^ j) < 0 from nI_pos (by omega)), vi_n (show ¬ nI 32 ≤ nI (S - 2 ^ j) from by rw [n_le (by omega) (by omega)]; omega), v_g (show (n - (bl n S).length) * 5 + j < 25 by omega) (by omega), v_g (show S - 2 ^ j < 32 by omega) (by omega), n_cl (show (n - (bl n S).length) * 5 + j < 2147483648 by omega), n_cl (show S - 2 ^ j < 2147483648 by omega), hc', hl', nI_add]
  rfl
/-- the first least, from left to right -/
def fsc (g : Nat → Nat) : Option Nat → List Nat → Option Nat
  | b, [] => b
  | none, j :: l => fsc g (some j) l
  | some b, j :: l => if g j < g b then fsc g (some j) l else fsc g (some b) l
theorem fsc_om (g : Nat → Nat) : ∀ (l : List Nat) (b : Nat), fsc g (some b) l = match om g l with
    | none => some b
    | some (m, k) => if m < g b then some k else some b := by
  intro l
  induction l with
  | nil => intro b; rfl
  | cons j l ih =>
    intro b
    show (if g j < g b then fsc g (some j) l else fsc g (some b) l) = _
    rw [ih, ih]
    cases h : om g l with
    | none => rw [om_c0 h]
    | some mb =>
      obtain ⟨m, k⟩ := mb
      rw [om_c1 h]
      dsimp only
      by_cases c1 : g j < g b
      · rw [if_pos c1]
        by_cases c2 : m < g j
        · rw [if_pos c2, if_pos c2]
          dsimp only
          rw [if_pos (show m < g b by omega)]
        · rw [if_neg c2, if_neg c2]
          dsimp only
          rw [if_pos c1]
      · rw [if_neg c1]
        by_cases c2 : m < g j
        · rw [if_pos c2]
        · rw [if_neg c2, if_neg (show ¬ m < g b by omega)]
          dsimp only
          rw [if_neg c1]
theorem fsc_0 {g : Nat → Nat} {l : List Nat} {m k : Nat} (h : om g l = some (m, k)) : fsc g none l = some k := by
  cases l with
  | nil => cases h
  | cons j l =>
    show fsc g (some j) l = some k
    rw [fsc_om]
    cases e : om g l with
    | none => rw [om_c0 e] at h; cases h; rfl
    | some mb =>
      obtain ⟨m', k'⟩ := mb
      rw [om_c1 e] at h
      dsimp only
      by_cases c : m' < g j
      · rw [if_pos c] at h ⊢; cases h; rfl
      · rw [if_neg c] at h ⊢; cases h; rfl
theorem fob_loop {n S : Nat} {costs least : Nat → Int32} {g : Nat → Nat} (hn : n ≤ 5) (hS : S < 2 ^ n) (hw : ∀ j, j < n → S.testBit j = true → sX1_sumWith costs least (nI n) (nI S) (nI j) = some (nI (g j))) (hg : ∀ j, g j ≤ 60) : ∀ (d fuel j : Nat) (b : Option Nat), d = n - j → j ≤ n → d < fuel → (∀ k, b = some k → k < n ∧ S.testBit k = true) → LX1_firstOfBest_5 (nI S) costs least (nI n) fuel (enc b) (nI j) = some (enc (fsc g b (lst S.testBit d j))) := by
  intro d
  induction d with
  | zero =>
    intro fuel j b q1 q2 q3 q4
    obtain ⟨f, rfl⟩ : ∃ f, fuel = f + 1 := ⟨fuel - 1, by omega⟩
    rw [LX1_firstOfBest_5, vi_p (show nI n ≤ nI j from by rw [n_le (by omega) (by omega)]; omega)]
    cases b <;> rfl
  | succ d ih =>
    intro fuel j b q1 q2 q3 q4
    obtain ⟨f, rfl⟩ : ∃ f, fuel = f + 1 := ⟨fuel - 1, by omega⟩
    rw [LX1_firstOfBest_5, vi_n (show ¬ nI n ≤ nI j from by rw [n_le (by omega) (by omega)]; omega)]
    cases e : S.testBit j with
    | true =>
      rw [vi_p (bits_y hn hS (by omega) e).1, lst_y e]
      have hj : ∀ k, some j = some k → k < n ∧ S.testBit k = true := fun k hk => by cases hk; exact ⟨by omega, e⟩
      cases b with
      | none =>
        rw [vi_p (show enc none = -4 from rfl)]
        simp only [v_l, nI_add]
        exact ih f (j + 1) (some j) (by omega) (by omega) (by omega) hj
      | some k =>
        obtain ⟨k1, k2⟩ := q4 k rfl
        have g1 := hg j
        have g2 := hg k
        rw [vi_n (show ¬ enc (some k) = -4 from m4 (by omega)), hw j (by omega) e, v_b, show enc (some k) = nI k from rfl, hw k k1 k2, v_b]
        by_cases q : g j < g k
        · rw [vi_n (show ¬ nI (g k) ≤ nI (g j) from by rw [n_le (by omega) (by omega)]; omega), show fsc g (some k) (j :: lst S.testBit d (j + 1)) = fsc g (some j) (lst S.testBit d (j + 1)) from if_pos q]
          simp only [v_l, nI_add]
          exact ih f (j + 1) (some j) (by omega) (by omega) (by omega) hj
        · rw [vi_p (show nI (g k) ≤ nI (g j) from by rw [n_le (by omega) (by omega)]; omega), show fsc g (some k) (j :: lst S.testBit d (j + 1)) = fsc g (some k) (lst S.testBit d (j + 1)) from if_neg q]
          simp only [v_l, nI_add]
          exact ih f (j + 1) (some k) (by omega) (by omega) (by omega) q4
    | false =>
      rw [vi_n (bits_no hn hS (by omega) e), lst_n e]
      simp only [v_l, nI_add]
      exact ih f (j + 1) b (by omega) (by omega) (by omega) q4
/-- who is the first of the best -/
theorem e_fob {n S : Nat} {costs least : Nat → Int32} {c : Nat → Nat → Nat} (hn : n ≤ 5) (hS : S < 2 ^ n) (h1 : 1 ≤ S) (hN : ∀ i j, c i j ≤ 9) (hc : ∀ i j, i < n → j < n → costs (i * 5 + j) = nI (c i j)) (hl : ∀ T, T < S → least T = nI (vS c n T)) : ∃ j, j < n ∧ S.testBit j = true ∧ j ∈ bl n S ∧ sX1_firstOfBest costs least (nI n) (nI S) = some (nI j) ∧ bst c (bl n S).length (n - (bl n S).length) (bl n S) = (gS c n S j, j :: (bst c ((bl n S).length - 1) (n - (bl n S).length + 1) ((bl n S).erase j)).2) := by
  have h2 := bits_1 n (by omega) S hS h1
  obtain ⟨x, xs, e⟩ := ne_nil (l := bl n S) (d := (bl n S).length - 1) (by omega)
  obtain ⟨v, j, e1⟩ := om_some (f := gS c n S) (x := x) (xs := xs)
  rw [← e] at e1
  obtain ⟨e2, e3⟩ := om_in e1
  obtain ⟨-, m2, m3⟩ := lst_mem e3
  refine ⟨j, by omega, m3, e3, ?_, ?_⟩
  · unfold sX1_firstOfBest
    rw [show (-4 : Int32) = enc none from rfl, fob_loop (g := gS c n S) hn hS (fun j hj hb => e_sumWith hn hS hj hb hc hl) (fun j => gS_le hN hn) n vF 0 none rfl (by omega) (by show n < 20000; omega) (fun k hk => by cases hk), show lst S.testBit n 0 = bl n S from rfl, fsc_0 e1]
    rfl
  · have e4 : om (fun j => c (n - (bl n S).length) j + (bst c ((bl n S).length - 1) (n - (bl n S).length + 1) ((bl n S).erase j)).1) (bl n S) = some (gS c n S j, j) := by rw [← e2]; exact e1
    have := bst_s e4
    rw [show (bl n S).length - 1 + 1 = (bl n S).length by omega] at this
    exact this
theorem set61 {n : Nat} {costs least : Nat → Int32} {c : Nat → Nat → Nat} (hn : n ≤ 5) (hN : ∀ i j, c i j ≤ 9) (hc : ∀ i j, i < n → j < n → costs (i * 5 + j) = nI (c i j)) (hl : ∀ T, T < 2 ^ n → least T = nI (vS c n T)) : ∀ (d fuel i S : Nat) (dealt : Nat → Int32), d = n - i → i ≤ n → d < fuel → S < 2 ^ n → (bl n S).length = d → ∃ dealt', LX1_settle_61 costs least (nI n) fuel (nI S) (nI i) dealt = some (least, dealt') ∧ (∀ t, t < i → dealt' t = dealt t) ∧ ∀ k, k < d → dealt' (i + k) = nI ((bst c d i (bl n S)).2.getD k 0) := by
  intro d
  induction d with
  | zero =>
    intro fuel i S dealt q1 q2 q3 q4 q5
    obtain ⟨f, rfl⟩ : ∃ f, fuel = f + 1 := ⟨fuel - 1, by omega⟩
    rw [LX1_settle_61, vi_p (show nI n ≤ nI i from by rw [n_le (by omega) (by omega)]; omega)]
    exact ⟨_, rfl, fun t _ => rfl, fun k hk => absurd hk (Nat.not_lt_zero k)⟩
  | succ d ih =>
    intro fuel i S dealt q1 q2 q3 q4 q5
    obtain ⟨f, rfl⟩ : ∃ f, fuel = f + 1 := ⟨fuel - 1, by omega⟩
    have hS1 : 1 ≤ S := by
      cases S with
      | zero =>
        exfalso
        have : bl n 0 = [] := by
          cases e : bl n 0 with
          | nil => rfl
          | cons x xs =>
            have := (lst_mem (show x ∈ lst (Nat.testBit 0) n 0 from by rw [show lst (Nat.testBit 0) n 0 = bl n 0 from rfl, e]; exact List.mem_cons_self)).2.2
            simp at this
        rw [this] at q5
        cases q5
      | succ S => omega
    obtain ⟨j, j1, j2, j3, j4, j5⟩ := e_fob hn q4 hS1 hN hc (fun T hT => hl T (by omega))
    obtain ⟨b1, b2, b3, b4⟩ := bits_y hn q4 j1 j2
    rw [q5, show n - (d + 1) = i by omega, Nat.add_sub_cancel] at j5
    have hlen : (bl n (S - 2 ^ j)).length = d := by rw [b3]; exact er_len q5 j3
    have hlt : S - 2 ^ j < 2 ^ n := Nat.lt_of_le_of_lt (Nat.sub_le _ _) q4
    rw [LX1_settle_61, vi_n (show ¬ nI n ≤ nI i from by rw [n_le (by omega) (by omega)]; omega), vi_n (show ¬ nI 5 ≤ nI i from by rw [n_le (by omega) (by omega)]; omega), j4, v_b, v_g (by omega) (by omega), n_cl (show i < 2147483648 by omega)]
    simp only [v_l, nI_add]
    rw [v_g (by omega) (by omega), u_eq rfl, b2]
    obtain ⟨dl, d1, d2', d3⟩ := ih f (i + 1) (S - 2 ^ j) (upd dealt i (nI j)) (by omega) (by omega) (by omega) hlt hlen
    refine ⟨dl, d1, fun t ht => by rw [d2' t (by omega), u_ne (by omega)], fun k hk => ?_⟩
    rw [j5]
    cases k with
    | zero => rw [Nat.add_zero, d2' i (by omega), u_eq rfl]; rfl
    | succ k =>
      rw [show i + (k + 1) = i + 1 + k by omega, d3 k (by omega), b3]
      rfl
theorem set9 {n : Nat} {costs dealt : Nat → Int32} {c : Nat → Nat → Nat} (hn : n ≤ 5) (hN : ∀ i j, c i j ≤ 9) (hc : ∀ i j, i < n → j < n → costs (i * 5 + j) = nI (c i j)) : ∀ (d fuel S : Nat) (least : Nat → Int32), d = 2 ^ n - S → 1 ≤ S → S ≤ 2 ^ n → d < fuel → (∀ T, T < S → least T = nI (vS c n T)) → ∃ least' dealt', LX1_settle_9 costs dealt (nI n) fuel (nI S) least = some (least', dealt') ∧ least' (2 ^ n - 1) = nI (bst c n 0 (List.range n)).1 ∧ agr n dealt' (oL (bst c n 0 (List.range n)).2) := by
  obtain ⟨n0, n1, n2, n3⟩ := bits_n n (by omega)
  intro d
  induction d with
  | zero =>
    intro fuel S least q1 q2 q3 q4 q5
    obtain ⟨f, rfl⟩ : ∃ f, fuel = f + 1 := ⟨fuel - 1, by omega⟩
    have hS : S = 2 ^ n := by omega
    subst hS
    have hlen : (bl n (2 ^ n - 1)).length = n := by rw [n3, List.length_range]
    obtain ⟨dl, d1, -, d3⟩ := set61 (least := least) hn hN hc q5 n vF 0 (2 ^ n - 1) dealt rfl (by omega) (by show n < 20000; omega) (by omega) hlen
    rw [LX1_settle_9, n0, vi_p (show nI (2 ^ n) ≤ nI (2 ^ n) from by rw [n_le (by omega) (by omega)]; exact Nat.le_refl _), n_sub (by omega)]
    simp only [v_l]
    rw [d1]
    refine ⟨_, _, rfl, ?_, fun k hk => ?_⟩
    · rw [q5 _ (by omega)]
      unfold vS
      rw [hlen, Nat.sub_self, n3]
    · have := d3 k hk
      rw [Nat.zero_add, n3] at this
      exact this
  | succ d ih =>
    intro fuel S least q1 q2 q3 q4 q5
    obtain ⟨f, rfl⟩ : ∃ f, fuel = f + 1 := ⟨fuel - 1, by omega⟩
    have hS : S < 2 ^ n := by omega
    obtain ⟨j, j1, j2, j3, j4, j5⟩ := e_fob hn hS q2 hN hc q5
    rw [LX1_settle_9, n0, vi_n (show ¬ nI (2 ^ n) ≤ nI S from by rw [n_le (by omega) (by omega)]; omega), vi_n (show ¬ nI 32 ≤ nI S from by rw [n_le (by omega) (by omega)]; omega), j4, v_b, e_sumWith hn hS j1 j2 hc q5, v_b, v_g (by omega) (by omega), n_cl (show S < 2147483648 by omega)]
    simp only [v_l, nI_add]
    refine ih f (S + 1) _ (by omega) (by omega) (by omega) (by omega) (fun T hT => ?_)
    by_cases e : T = S
    · subst e
      rw [u_eq rfl]
      unfold vS
      rw [j5]
    · rw [u_ne e]; exact q5 T (by omega)
theorem e_settle {n : Nat} {costs least dealt : Nat → Int32} {c : Nat → Nat → Nat} (hn : n ≤ 5) (hN : ∀ i j, c i j ≤ 9) (hc : ∀ i j, i < n → j < n → costs (i * 5 + j) = nI (c i j)) : ∃ least' dealt', sX1_settle costs least dealt (nI n) = some (least', dealt') ∧ sX1_total least' (nI n) = some (nI (bst c n 0 (List.range n)).1) ∧ agr n dealt' (oL (bst c n 0 (List.range n)).2) := by
  obtain ⟨n0, n1, n2, n3⟩ := bits_n n (by omega)
  unfold sX1_settle
  rw [n_cl (show 0 < 2147483648 by decide)]
  simp only [v_l]
  obtain ⟨l', d', e1, e2, e3⟩ := set9 (costs := costs) (dealt := dealt) (c := c) hn hN hc (2 ^ n - 1) vF 1 (upd least 0 (nI 0)) rfl (by omega) (by omega) (by show 2 ^ n - 1 < 20000; omega) (fun T hT => by
    obtain rfl : T = 0 := by omega
    rw [u_eq rfl]
    have h0 : ∀ n, n < 6 → bl n 0 = [] := by decide
    unfold vS
    rw [h0 n (by omega)]
    rfl)
  refine ⟨l', d', e1, ?_, e3⟩
  unfold sX1_total
  rw [n0, n_sub (by omega)]
  simp only [v_l]
  rw [vi_n (show ¬ nI (2 ^ n - 1) < 0 from nI_pos (by omega)), vi_n (show ¬ nI 32 ≤ nI (2 ^ n - 1) from by rw [n_le (by omega) (by omega)]; omega), v_g (by omega) (by omega), n_cl (show 2 ^ n - 1 < 2147483648 by omega), e2]
theorem e_wordAt {n j : Nat} {words : Nat → Int32} (hn : n ≤ 5) (hj : j < n) : sX1_wordAt words (nI n) (nI j) = some (words j) := by
  unfold sX1_wordAt
  rw [vi_n (show ¬ nI j < 0 from nI_pos (by omega)), vi_n (show ¬ nI n ≤ nI j from by rw [n_le (by omega) (by omega)]; omega), vi_n (show ¬ nI 5 ≤ nI j from by rw [n_le (by omega) (by omega)]; omega), v_g (by omega) (by omega), n_cl (by omega)]
theorem e_actorAt1 {n j : Nat} {acts : Nat → Int32} (hn : n ≤ 5) (hj : j < n) : sX1_actorAt acts (nI n) (nI j) = some (acts j) := by
  unfold sX1_actorAt
  rw [vi_n (show ¬ nI j < 0 from nI_pos (by omega)), vi_n (show ¬ nI n ≤ nI j from by rw [n_le (by omega) (by omega)]; omega), vi_n (show ¬ nI 5 ≤ nI j from by rw [n_le (by omega) (by omega)]; omega), v_g (by omega) (by omega), n_cl (by omega)]
theorem e_setCost {i j : Nat} {costs : Nat → Int32} {x : Int32} (hi : i < 5) (hj : j < 5) : sX1_setCost costs (nI i) (nI j) x = some (upd costs (i * 5 + j) x) := by
  unfold sX1_setCost
  rw [vi_n (show ¬ nI i < 0 from nI_pos (by omega)), vi_n (show ¬ nI 5 ≤ nI i from by rw [n_le (by omega) (by omega)]; omega), vi_n (show ¬ nI j < 0 from nI_pos (by omega)), vi_n (show ¬ nI 5 ≤ nI j from by rw [n_le (by omega) (by omega)]; omega), n_mul, nI_add, v_g (by omega) (by omega), n_cl (by omega), v_l]
/-- for whose word the actor acts then, on both sides -/
theorem wf_loop {n : Nat} {x : Int32} {l P : List Nat} {wt : Nat → Nat} {acts words dealt : Nat → Int32} (hn : n ≤ 5) (ha : ∀ j, j < n → acts j = nI (l.getD j 0)) (hw : ∀ j, j < n → words j = nI (wt (l.getD j 0))) (hd : agr n dealt (oL P)) (hP : ∀ j, j < n → P.getD j 0 < n) : ∀ (d fuel i : Nat), d = n - i → i ≤ n → d < fuel → LX1_wordFor_2 x acts words dealt (nI n) fuel (nI i) = some (lk (fun i => decide (nI (l.getD i 0) = x)) (fun i => nI (wt (l.getD (P.getD i 0) 0))) d i) := by
  intro d
  induction d with
  | zero =>
    intro fuel i q1 q2 q3
    obtain ⟨f, rfl⟩ : ∃ f, fuel = f + 1 := ⟨fuel - 1, by omega⟩
    rw [LX1_wordFor_2, vi_p (show nI n ≤ nI i from by rw [n_le (by omega) (by omega)]; omega)]
    rfl
  | succ d ih =>
    intro fuel i q1 q2 q3
    obtain ⟨f, rfl⟩ : ∃ f, fuel = f + 1 := ⟨fuel - 1, by omega⟩
    have hi : i < n := by omega
    rw [LX1_wordFor_2, vi_n (show ¬ nI n ≤ nI i from by rw [n_le (by omega) (by omega)]; omega), vi_n (show ¬ nI 5 ≤ nI i from by rw [n_le (by omega) (by omega)]; omega), v_g (by omega) (by omega), n_cl (show i < 2147483648 by omega), ha i hi]
    show _ = some (if decide (nI (l.getD i 0) = x) = true then nI (wt (l.getD (P.getD i 0) 0)) else lk _ _ d (i + 1))
    by_cases e : nI (l.getD i 0) = x
    · rw [vi_p e, v_g (by omega) (by omega), hd i hi, show oL P i = nI (P.getD i 0) from rfl, e_wordAt hn (hP i hi), v_b, hw _ (hP i hi), if_pos (decide_eq_true e)]
    · rw [vi_n e, if_neg (by rw [decide_eq_true_eq]; exact e)]
      simp only [v_l, nI_add]
      exact ih f (i + 1) (by omega) (by omega) (by omega)
theorem s33 {n T : Nat} {x : Int32} {l P : List Nat} {wt : Nat → Nat} {who bo ws tr row order costs : Nat → Int32} (hA : A ≤ 5) (hn : n ≤ 5) (hl : ∀ j, j < n → l.getD j 0 < A) (ha : ∀ j, j < n → who j = nI (l.getD j 0)) (hg : ∀ a, a < A → gn a = nI (wt a) ∧ wt a < W) (hd : agr n bo (oL P)) (hP : ∀ j, j < n → P.getD j 0 < n) : ∀ (d fuel i : Nat) (y : Int32), d = n - i → i ≤ n → d < fuel → LX9_send_33 x (nI n) (nI T) gn ws tr row who order bo costs fuel y (nI i) = some (if x = -1 then nI T else lkr (fun i => decide (nI (l.getD i 0) = x)) (fun i => nI (wt (l.getD (P.getD i 0) 0))) d i y, ws, tr, row, who, order, bo, costs) := by
  intro d
  induction d with
  | zero =>
    intro fuel i y q1 q2 q3
    obtain ⟨f, rfl⟩ : ∃ f, fuel = f + 1 := ⟨fuel - 1, by omega⟩
    rw [LX9_send_33, vi_p (show nI n ≤ nI i from by rw [n_le (by omega) (by omega)]; omega)]
    by_cases e : x = -1
    · rw [vi_p e, if_pos e]
    · rw [vi_n e, if_neg e]; rfl
  | succ d ih =>
    intro fuel i y q1 q2 q3
    obtain ⟨f, rfl⟩ : ∃ f, fuel = f + 1 := ⟨fuel - 1, by omega⟩
    have hi : i < n := by omega
    have hp := hP i hi
    have hlp := hl _ hp
    rw [LX9_send_33, vi_n (show ¬ nI n ≤ nI i from by rw [n_le (by omega) (by omega)]; omega), v_g (show i < 5 by omega) (by omega), n_cl (show i < 2147483648 by omega), ha i hi]
    by_cases e : nI (l.getD i 0) = x
    · rw [vi_p e, v_g (by omega) (by omega), hd i hi, show oL P i = nI (P.getD i 0) from rfl, v_g (show P.getD i 0 < 5 by omega) (by omega), n_cl (show P.getD i 0 < 2147483648 by omega), ha _ hp, z_add, v_g (show l.getD (P.getD i 0) 0 < 50 by omega) (by omega), n_cl (show l.getD (P.getD i 0) 0 < 2147483648 by omega), (hg _ hlp).1]
      simp only [v_l, nI_add]
      rw [ih f (i + 1) _ (by omega) (by omega) (by omega)]
      show some (if x = -1 then nI T else lkr _ _ d (i + 1) (nI (wt (l.getD (P.getD i 0) 0))), _) = some (if x = -1 then nI T else lkr _ _ d (i + 1) (if decide (nI (l.getD i 0) = x) = true then nI (wt (l.getD (P.getD i 0) 0)) else y), _)
      rw [if_pos (decide_eq_true e)]
    · rw [vi_n e]
      simp only [v_l, nI_add]
      rw [ih f (i + 1) _ (by omega) (by omega) (by omega)]
      show some (if x = -1 then nI T else lkr _ _ d (i + 1) y, _) = some (if x = -1 then nI T else lkr _ _ d (i + 1) (if decide (nI (l.getD i 0) = x) = true then nI (wt (l.getD (P.getD i 0) 0)) else y), _)
      rw [if_neg (show ¬ decide (nI (l.getD i 0) = x) = true by rw [decide_eq_true_eq]; exact e)]
/-- the class's table of costs -/
def CL (W A : Nat) (C : Nat → Nat → Nat) (ln : Nat → Int32) (a : Nat) : Prop := ∀ w, w < W → (ln w = -4 ∧ C a w = 9) ∨ ∃ m, m ≤ 3 ∧ ln w = nI m ∧ C a w = m
theorem s107 {n i : Nat} {l : List Nat} {wt : Nat → Nat} {C : Nat → Nat → Nat} {ln words : Nat → Int32} {K : (Nat → Int32) → Option (Int32 × (Nat → Int32) × (Nat → Int32) × (Nat → Int32) × (Nat → Int32) × (Nat → Int32) × (Nat → Int32) × Int32 × Int32 × Int32 × (Nat → Int32) × (Nat → Int32) × (Nat → Int32) × (Nat → Int32) × (Nat → Int32) × Int32)} (hW : W ≤ 8) (hn : n ≤ 5) (hi : i < n) (hC : CL W A C ln (l.getD i 0)) (hw : ∀ j, j < n → words j = nI (wt (l.getD j 0)) ∧ wt (l.getD j 0) < W) : ∀ (d fuel j : Nat) (costs : Nat → Int32), d = n - j → j ≤ n → d < fuel → ∃ costs', LX8_send_107 (nI i) ln (nI W) words (nI n) K fuel (nI j) costs = K costs' ∧ (∀ t, t < i * 5 + j ∨ i * 5 + n ≤ t → costs' t = costs t) ∧ ∀ k, j ≤ k → k < n → costs' (i * 5 + k) = nI (C (l.getD i 0) (wt (l.getD k 0))) := by
  intro d
  induction d with
  | zero =>
    intro fuel j costs q1 q2 q3
    obtain ⟨f, rfl⟩ : ∃ f, fuel = f + 1 := ⟨fuel - 1, by omega⟩
    rw [LX8_send_107, sX1_size, v_b, vi_p (show nI n ≤ nI j from by rw [n_le (by omega) (by omega)]; omega)]
    exact ⟨_, rfl, fun t _ => rfl, fun k k1 k2 => absurd k1 (by omega)⟩
  | succ d ih =>
    intro fuel j costs q1 q2 q3
    obtain ⟨f, rfl⟩ : ∃ f, fuel = f + 1 := ⟨fuel - 1, by omega⟩
    have a1 : d = n - (j + 1) := by omega
    have a2 : j + 1 ≤ n := by omega
    have a3 : d < f := by omega
    obtain ⟨w1, w2⟩ := hw j (by omega)
    rw [LX8_send_107, sX1_size, v_b, vi_n (show ¬ nI n ≤ nI j from by rw [n_le (by omega) (by omega)]; omega), e_wordAt hn (by omega), v_b, w1, e_howMany hW w2, v_b]
    have key : ∀ x : Int32, x = nI (C (l.getD i 0) (wt (l.getD j 0))) → ∃ costs', LX8_send_107 (nI i) ln (nI W) words (nI n) K f (nI (j + 1)) (upd costs (i * 5 + j) x) = K costs' ∧ (∀ t, t < i * 5 + j ∨ i * 5 + n ≤ t → costs' t = costs t) ∧ ∀ k, j ≤ k → k < n → costs' (i * 5 + k) = nI (C (l.getD i 0) (wt (l.getD k 0))) := by
      intro x hx
      obtain ⟨co', e1, e2, e3⟩ := ih f (j + 1) (upd costs (i * 5 + j) x) a1 a2 a3
      refine ⟨co', e1, fun t ht => by rw [e2 t (by omega), u_ne (by omega)], fun k k1 k2 => ?_⟩
      by_cases e : k = j
      · subst e; rw [e2 _ (by omega), u_eq rfl]; exact hx
      · exact e3 k (by omega) k2
    rcases hC _ w2 with ⟨e, e'⟩ | ⟨m, m1, e, e'⟩
    · rw [vi_p e, e_setCost (by omega) (by omega), v_b]
      simp only [v_l, nI_add]
      exact key _ (by rw [e'])
    · rw [vi_n (show ¬ ln (wt (l.getD j 0)) = -4 from by rw [e]; exact m4 (by omega)), e_setCost (by omega) (by omega), v_b]
      simp only [v_l, nI_add]
      exact key (ln (wt (l.getD j 0))) (by rw [e, e'])
/-- a run of the class's search for an actor -/
def CR (com len par lik : Nat → Int32) (W L A : Nat) (fb hb : Int32) (sc : Nat → Int32) (C : Nat → Nat → Nat) : Prop := ∀ a, a < A → ∀ (fr fc wt row ln sgs : Nat → Int32) (wo fo op : Int32), ∃ z, sX5_run fr fc wt row ln sgs wo fo op com len par lik (nI W) (nI L) fb hb sc (nI a) = some z ∧ z.2.2.2.2.2.2.1 = nI W ∧ CL W A C z.2.2.2.2.1 a
set_option maxHeartbeats 2000000 in
theorem s71 {n : Nat} {x : Int32} {l : List Nat} {wt : Nat → Nat} {C : Nat → Nat → Nat} {acts words least dealt : Nat → Int32} (hW : W ≤ 8) (hn : n ≤ 5) (hCR : CR com len par lik W L A fb hb sc C) (hN : ∀ a w, C a w ≤ 9) (hl : ∀ j, j < n → l.getD j 0 < A) (ha : ∀ j, j < n → acts j = nI (l.getD j 0)) (hw : ∀ j, j < n → words j = nI (wt (l.getD j 0)) ∧ wt (l.getD j 0) < W) : ∀ (d fuel i : Nat) (fr fc ws row ln sgs : Nat → Int32) (wo fo op : Int32) (costs : Nat → Int32), d = n - i → i ≤ n → d < fuel → (∀ i' j, i' < i → j < n → costs (i' * 5 + j) = nI (C (l.getD i' 0) (wt (l.getD j 0)))) → ∃ z, LX8_send_71 x com len par lik (nI W) (nI L) fb hb sc acts words least dealt (nI n) fuel (nI i) fr fc ws row ln sgs wo fo op costs = some z ∧ z.1 = if x = -1 then nI (bst (fun i j => C (l.getD i 0) (wt (l.getD j 0))) n 0 (List.range n)).1 else lk (fun i => decide (nI (l.getD i 0) = x)) (fun i => nI (wt (l.getD ((bst (fun i j => C (l.getD i 0) (wt (l.getD j 0))) n 0 (List.range n)).2.getD i 0) 0))) n 0 := by
  intro d
  induction d with
  | zero =>
    intro fuel i fr fc ws row ln sgs wo fo op costs q1 q2 q3 q4
    obtain ⟨f, rfl⟩ : ∃ f, fuel = f + 1 := ⟨fuel - 1, by omega⟩
    obtain ⟨l', d', e1, e2, e3⟩ := e_settle (least := least) (dealt := dealt) (costs := costs) (c := fun i j => C (l.getD i 0) (wt (l.getD j 0))) hn (fun i j => hN _ _) (fun i j hi hj => q4 i j (by omega) hj)
    have hP : ∀ j, j < n → (bst (fun i j => C (l.getD i 0) (wt (l.getD j 0))) n 0 (List.range n)).2.getD j 0 < n := by
      intro j hj
      obtain ⟨b1, b2⟩ := bst_ok (fun i j => C (l.getD i 0) (wt (l.getD j 0))) n 0 (List.range n) List.length_range
      exact List.mem_range.1 (b2 _ (mem_g _ _ (by omega)))
    rw [LX8_send_71, sX1_size, v_b, vi_p (show nI n ≤ nI i from by rw [n_le (by omega) (by omega)]; omega), e1, v_b]
    by_cases e : x = -1
    · rw [vi_p e, e2, v_b, if_pos e]
      exact ⟨_, rfl, rfl⟩
    · rw [vi_n e, if_neg e]
      unfold sX1_wordFor
      dsimp only
      rw [show (nI 0 : Int32) = nI 0 from rfl, wf_loop hn ha (fun j hj => (hw j hj).1) e3 hP n vF 0 rfl (by omega) (by show n < 20000; omega), v_b]
      exact ⟨_, rfl, rfl⟩
  | succ d ih =>
    intro fuel i fr fc ws row ln sgs wo fo op costs q1 q2 q3 q4
    obtain ⟨f, rfl⟩ : ∃ f, fuel = f + 1 := ⟨fuel - 1, by omega⟩
    obtain ⟨z, z1, z2, z3⟩ := hCR _ (hl i (by omega)) fr fc ws row ln sgs wo fo op
    rw [LX8_send_71, sX1_size, v_b, vi_n (show ¬ nI n ≤ nI i from by rw [n_le (by omega) (by omega)]; omega), e_actorAt1 hn (by omega), v_b, ha i (by omega), z1, v_b, z2]
    obtain ⟨co', e1, e2, e3⟩ := s107 (n := n) (i := i) (l := l) (wt := wt) (C := C) (ln := z.2.2.2.2.1) (words := words) (A := A) (K := fun (v18 : Nat → Int32) => vlet (nI i + nI 1) fun y19 => LX8_send_71 x com len par lik (nI W) (nI L) fb hb sc acts words least dealt (nI n) f y19 z.1 z.2.1 z.2.2.1 z.2.2.2.1 z.2.2.2.2.1 z.2.2.2.2.2.1 (nI W) z.2.2.2.2.2.2.2.1 z.2.2.2.2.2.2.2.2 v18) hW hn (by omega) z3 hw n vF 0 costs rfl (by omega) (by show n < 20000; omega)
    rw [e1]
    simp only [v_l, nI_add]
    refine ih f (i + 1) _ _ _ _ _ _ _ _ _ co' (by omega) (by omega) (by omega) (fun i' j hi' hj => ?_)
    by_cases e : i' = i
    · subst e; exact e3 j (by omega) hj
    · rw [e2 _ (by omega)]; exact q4 i' j (by omega) hj
set_option maxHeartbeats 2000000 in
theorem s24 {x : Int32} {f : Nat → Bool} {wt : Nat → Nat} {C : Nat → Nat → Nat} {least dealt costs fr fc ws row ln sgs : Nat → Int32} {wo fo op : Int32} (hW : W ≤ 8) (hA : A ≤ 5) (hCR : CR com len par lik W L A fb hb sc C) (hN : ∀ a w, C a w ≤ 9) (hf : ∀ a, a < A → sX4_isFresh sc (nI a) = some (if f a then nI 1 else nI 0)) (hg : ∀ a, a < A → sc (a * 11 + 1) = nI (wt a) ∧ wt a < W) : ∀ (d fuel a : Nat) (L0 : List Nat) (acts words : Nat → Int32), d = A - a → a ≤ A → d < fuel → L0 ++ lst f d a = lst f A 0 → (∀ j, j < L0.length → acts j = nI ((lst f A 0).getD j 0) ∧ words j = nI (wt ((lst f A 0).getD j 0))) → ∃ z, LX8_send_24 x com len par lik (nI W) (nI L) (nI A) fb hb sc fr fc ws row ln sgs wo fo op costs least dealt fuel (nI a) acts words (nI L0.length) = some z ∧ z.1 = if x = -1 then nI (bst (fun i j => C ((lst f A 0).getD i 0) (wt ((lst f A 0).getD j 0))) (lst f A 0).length 0 (List.range (lst f A 0).length)).1 else lk (fun i => decide (nI ((lst f A 0).getD i 0) = x)) (fun i => nI (wt ((lst f A 0).getD ((bst (fun i j => C ((lst f A 0).getD i 0) (wt ((lst f A 0).getD j 0))) (lst f A 0).length 0 (List.range (lst f A 0).length)).2.getD i 0) 0))) (lst f A 0).length 0 := by
  have hlen := lst_len f A 0
  have hlt : ∀ j, j < (lst f A 0).length → (lst f A 0).getD j 0 < A := fun j hj => by
    have := (lst_mem (mem_g _ _ hj)).2.1
    omega
  intro d
  induction d with
  | zero =>
    intro fuel a L0 acts words q1 q2 q3 q4 q5
    obtain ⟨g, rfl⟩ : ∃ f, fuel = f + 1 := ⟨fuel - 1, by omega⟩
    have q4 : L0 = lst f A 0 := by rw [← q4]; exact (List.append_nil _).symm
    subst q4
    rw [LX8_send_24, sX0_actors, v_b, vi_p (show nI A ≤ nI a from by rw [n_le (by omega) (by omega)]; omega)]
    exact s71 (A := A) hW (by omega) hCR hN hlt (fun j hj => (q5 j hj).1) (fun j hj => ⟨(q5 j hj).2, (hg _ (hlt j hj)).2⟩) (lst f A 0).length vF 0 fr fc ws row ln sgs wo fo op costs rfl (by omega) (by show (lst f A 0).length < 20000; omega) (fun i' j hi' hj => absurd hi' (Nat.not_lt_zero i'))
  | succ d ih =>
    intro fuel a L0 acts words q1 q2 q3 q4 q5
    obtain ⟨g, rfl⟩ : ∃ f, fuel = f + 1 := ⟨fuel - 1, by omega⟩
    rw [LX8_send_24, sX0_actors, v_b, vi_n (show ¬ nI A ≤ nI a from by rw [n_le (by omega) (by omega)]; omega), hf a (by omega), v_b]
    cases e : f a with
    | true =>
      rw [lst_y e] at q4
      have hk : L0.length < (lst f A 0).length := by rw [← q4, List.length_append, List.length_cons]; omega
      have hga : (lst f A 0).getD L0.length 0 = a := by rw [← q4, List.getD_eq_getElem?_getD, List.getElem?_append_right (Nat.le_refl _), Nat.sub_self]; rfl
      rw [if_pos rfl, vi_n n10, e_cell (by omega), v_b, (hg a (by omega)).1]
      unfold sX1_add
      rw [vi_n (show ¬ nI L0.length < 0 from nI_pos (by omega)), vi_n (show ¬ nI 5 ≤ nI L0.length from by rw [n_le (by omega) (by omega)]; omega), v_g (by omega) (by omega), n_cl (show L0.length < 2147483648 by omega)]
      simp only [v_l, nI_add]
      rw [v_g (by omega) (by omega), v_b]
      have hl1 : (L0 ++ [a]).length = L0.length + 1 := by rw [List.length_append]; rfl
      have := ih g (a + 1) (L0 ++ [a]) (upd acts L0.length (nI a)) (upd words L0.length (nI (wt a))) (by omega) (by omega) (by omega) (by rw [List.append_assoc]; exact q4) (fun j hj => by
        rw [hl1] at hj
        by_cases ej : j = L0.length
        · subst ej; rw [u_eq rfl, u_eq rfl, hga]; exact ⟨rfl, rfl⟩
        · rw [u_ne ej, u_ne ej]; exact q5 j (by omega))
      rw [hl1] at this
      exact this
    | false =>
      rw [lst_n e] at q4
      rw [if_neg (by decide), vi_p nI_0]
      simp only [v_l, nI_add]
      exact ih g (a + 1) L0 acts words (by omega) (by omega) (by omega) q4 q5
/-- FEWEST as a cost -/
def cF (r gn : Nat → Int32) (a w : Nat) : Nat := match sX9_fewestFor r gn (fun _ => 0) (fun _ => 0) (fun _ => 0) (nI a) (nI w) with
  | some z => if z.1 = -4 then 9 else min z.1.toNatClampNeg 9
  | none => 9
theorem cF_le (r gn : Nat → Int32) (a w : Nat) : cF r gn a w ≤ 9 := by
  unfold cF
  cases sX9_fewestFor r gn (fun _ => 0) (fun _ => 0) (fun _ => 0) (nI a) (nI w) with
  | none => exact Nat.le_refl 9
  | some z =>
    dsimp only
    by_cases e : z.1 = -4
    · rw [if_pos e]; exact Nat.le_refl 9
    · rw [if_neg e]; exact Nat.min_le_right _ _
theorem cF_at {a w : Nat} {v : Int32} {x : (Nat → Int32) × (Nat → Int32) × (Nat → Int32)} (e : sX9_fewestFor r gn (fun _ => 0) (fun _ => 0) (fun _ => 0) (nI a) (nI w) = some (v, x)) (h : v = -4 ∨ ∃ m, m ≤ 3 ∧ v = nI m) : (v = -4 ∧ cF r gn a w = 9) ∨ ∃ m, m ≤ 3 ∧ v = nI m ∧ cF r gn a w = m := by
  unfold cF
  rw [e]
  dsimp only
  rcases h with h | ⟨m, m1, m2⟩
  · exact Or.inl ⟨h, if_pos h⟩
  · refine Or.inr ⟨m, m1, m2, ?_⟩
    rw [if_neg (by rw [m2]; exact m4 (by omega)), m2, n_cl (by omega)]
    exact Nat.min_eq_left (by omega)
theorem CF_both {p q : Nat} (hB : RB W L A com len par lik fb (nI (10 * p + q)) pr r) (hS : SR W L A r sc gn) (hp : p ≤ 5) (hq : q ≤ 4) (h4 : r 4 = nI p) (h5 : r 5 = nI q) {a w : Nat} (ha : a < A) (hw : w < W) (fr fc wt row ln sgs ws tr rw' : Nat → Int32) (wo fo op : Int32) : ∃ z v ws' tr' row', sX5_run fr fc wt row ln sgs wo fo op com len par lik (nI W) (nI L) fb (nI (10 * p + q)) sc (nI a) = some z ∧ z.2.2.2.2.2.2.1 = nI W ∧ sX9_fewestFor r gn ws tr rw' (nI a) (nI w) = some (v, ws', tr', row') ∧ z.2.2.2.2.1 w = v ∧ ((v = -4 ∧ cF r gn a w = 9) ∨ ∃ m, m ≤ 3 ∧ v = nI m ∧ cF r gn a w = m) := by
  have A5 := hB.1.2.2
  obtain ⟨kd, x, co, sh, gu, st, sg, hb', hv⟩ := hS.1 a ha
  obtain ⟨z, v, ws', tr', row', z1, z2, z3, z4, z5⟩ := q_both fr fc wt row ln sgs ws tr rw' wo fo op hB hp hq h4 h5 (show a < 5 by omega) hw hb' hv
  obtain ⟨y, u, ws'', tr'', row'', y1, y2, y3, y4, y5⟩ := q_both fr fc wt row ln sgs (fun _ => 0) (fun _ => 0) (fun _ => 0) wo fo op hB hp hq h4 h5 (show a < 5 by omega) hw hb' hv
  have e : z = y := Option.some.inj (z1.symm.trans y1)
  subst e
  have e : v = u := z4.symm.trans y4
  subst e
  refine ⟨z, v, ws', tr', row', z1, z2, z3, z4, cF_at y3 ?_⟩
  rcases z5 with h | ⟨m, m1, m2, -⟩
  · exact Or.inl h
  · exact Or.inr ⟨m, m1, m2⟩
theorem CO_ok {p q : Nat} (hB : RB W L A com len par lik fb (nI (10 * p + q)) pr r) (hS : SR W L A r sc gn) (hp : p ≤ 5) (hq : q ≤ 4) (h4 : r 4 = nI p) (h5 : r 5 = nI q) : CO r gn W A (cF r gn) := by
  intro a ha w hw ws tr rw'
  obtain ⟨z, v, ws', tr', row', -, -, z3, -, z5⟩ := CF_both hB hS hp hq h4 h5 ha hw (fun _ => 0) (fun _ => 0) (fun _ => 0) (fun _ => 0) (fun _ => 0) (fun _ => 0) ws tr rw' 0 0 0
  exact ⟨v, ws', tr', row', z3, z5⟩
theorem CR_ok {p q : Nat} (hB : RB W L A com len par lik fb (nI (10 * p + q)) pr r) (hS : SR W L A r sc gn) (hp : p ≤ 5) (hq : q ≤ 4) (h4 : r 4 = nI p) (h5 : r 5 = nI q) : CR com len par lik W L A fb (nI (10 * p + q)) sc (cF r gn) := by
  intro a ha fr fc wt row ln sgs wo fo op
  have A5 := hB.1.2.2
  obtain ⟨kd, x, co, sh, gu, st, sg, hb', hv⟩ := hS.1 a ha
  obtain ⟨z, v, ws', tr', row', z1, z2, -, -, -⟩ := CF_both hB hS hp hq h4 h5 ha hb'.2.1 fr fc wt row ln sgs (fun _ => 0) (fun _ => 0) (fun _ => 0) wo fo op
  refine ⟨z, z1, z2, fun w hw => ?_⟩
  obtain ⟨y, u, ws'', tr'', row'', y1, y2, y3, y4, y5⟩ := CF_both hB hS hp hq h4 h5 ha hw fr fc wt row ln sgs (fun _ => 0) (fun _ => 0) (fun _ => 0) wo fo op
  have e : z = y := Option.some.inj (z1.symm.trans y1)
  subst e
  rw [y4]
  exact y5
theorem bothB {n : Nat} {F G : Nat → Option Int32} (h : ∀ a, a < n → (F a = some (nI 1) ∧ G a = some (nI 1)) ∨ (F a = some (nI 0) ∧ G a = some (nI 0))) : ∃ f : Nat → Bool, ∀ a, a < n → F a = some (if f a then nI 1 else nI 0) ∧ G a = some (if f a then nI 1 else nI 0) := by
  obtain ⟨f, hf⟩ : ∃ f : Nat → Bool, ∀ a, f a = decide (G a = some (nI 1)) := ⟨_, fun _ => rfl⟩
  refine ⟨f, fun a ha => ?_⟩
  rcases h a ha with ⟨h1, h2⟩ | ⟨h1, h2⟩
  · have e : f a = true := by rw [hf]; exact decide_eq_true h2
    rw [e, if_pos rfl]
    exact ⟨h1, h2⟩
  · have e : f a = false := by
      rw [hf, decide_eq_false_iff_not, h2]
      decide
    rw [e, if_neg (by decide)]
    exact ⟨h1, h2⟩
set_option maxHeartbeats 2000000 in
theorem q_send (fr fc wt row ln sgs ws tr rw' da dw dc dl dd who ord bo costs : Nat → Int32) (wo fo op du : Int32) (hB : RB W L A com len par lik fb hb pr r) (hS : SR W L A r sc gn) (x : Int32) : ∃ u, sX8_send com len par lik (nI W) (nI L) (nI A) fb hb sc fr fc wt row ln sgs wo fo op da dw dc dl dd du x = some u ∧ ∃ w, sX9_send r gn ws tr rw' who ord bo costs x = some w ∧ u.1 = w.1 := by
  obtain ⟨⟨W8, L6, A5⟩, ⟨h0, h1, h2, h3, h6⟩, ⟨p, q, p1, p2, q1, q2, h4, h5, hh⟩, -⟩ := id hB
  subst hh
  have hCO := CO_ok hB hS p2 q2 h4 h5
  have hCR := CR_ok hB hS p2 q2 h4 h5
  have hN : ∀ a w, cF r gn a w ≤ 9 := cF_le r gn
  obtain ⟨f, hf⟩ : ∃ f : Nat → Bool, ∀ a, a < A → sX4_isFresh sc (nI a) = some (if f a then nI 1 else nI 0) ∧ sX9_isFresh gn (nI a) = some (if f a then nI 1 else nI 0) := by
    refine bothB (fun a ha => ?_)
    obtain ⟨kd, x, co, sh, gu, st, sg, hb', hv⟩ := hS.1 a ha
    rw [e_fresh4 (show a < 5 by omega) hb'.2.2.2.2.2.1 hb'.2.2.2.1 hv.2.2.2.1.1 hv.2.2.2.2.2.1.1, e_fresh9 (show a < 5 by omega) hb'.2.2.2.2.2.1 hb'.2.2.2.1 hv.2.2.2.1.2 hv.2.2.2.2.2.1.2]
    by_cases c : st = 0 ∧ sh = 0
    · rw [if_pos c]; exact Or.inl ⟨rfl, rfl⟩
    · rw [if_neg c]; exact Or.inr ⟨rfl, rfl⟩
  obtain ⟨wn, hg⟩ : ∃ wn : Nat → Nat, ∀ a, a < A → sc (a * 11 + 1) = nI (wn a) ∧ gn a = nI (wn a) ∧ wn a < W := by
    refine ⟨fun a => (gn a).toNatClampNeg, fun a ha => ?_⟩
    obtain ⟨kd, x, co, sh, gu, st, sg, hb', hv⟩ := hS.1 a ha
    have hx := hb'.2.1
    dsimp only
    rw [hv.2.1.1, hv.2.1.2, n_cl (show x < 2147483648 by omega)]
    exact ⟨rfl, rfl, hx⟩
  have hlen := lst_len f A 0
  have hlt : ∀ j, j < (lst f A 0).length → (lst f A 0).getD j 0 < A := fun j hj => by
    have := (lst_mem (mem_g _ _ hj)).2.1
    omega
  have core : ∃ u, LX8_send_24 x com len par lik (nI W) (nI L) (nI A) fb (nI (10 * p + q)) sc fr fc wt row ln sgs wo fo op dc dl dd vF (nI 0) da dw (nI 0) = some u ∧ ∃ w, (vb (sX9_freshOnes r gn who) fun z16 => vb (sX9_deals r gn ws tr rw' z16.2 ord bo costs z16.1) fun z17 => LX9_send_33 x z16.1 z17.1 gn z17.2.1 z17.2.2.1 z17.2.2.2.1 z16.2 z17.2.2.2.2.1 z17.2.2.2.2.2.1 z17.2.2.2.2.2.2 vF (-4) (nI 0)) = some w ∧ u.1 = w.1 := by
    obtain ⟨u, u1, u2⟩ := s24 (x := x) (f := f) (wt := wn) (C := cF r gn) (least := dl) (dealt := dd) (costs := dc) (fr := fr) (fc := fc) (ws := wt) (row := row) (ln := ln) (sgs := sgs) (wo := wo) (fo := fo) (op := op) W8 A5 hCR hN (fun a ha => (hf a ha).1) (fun a ha => ⟨(hg a ha).1, (hg a ha).2.2⟩) A vF 0 [] da dw rfl (by omega) (by show A < 20000; omega) rfl (fun j hj => absurd hj (Nat.not_lt_zero j))
    refine ⟨u, u1, ?_⟩
    obtain ⟨who', w1, -, w3⟩ := fresh9 (f := f) A5 h2 (fun a ha => (hf a ha).2) A vF 0 0 who rfl (by omega) (by show A < 20000; omega) (by omega)
    rw [Nat.zero_add] at w1
    have w3 : ∀ j, j < (lst f A 0).length → who' j = nI ((lst f A 0).getD j 0) := fun j hj => by
      have := w3 j hj
      rw [Nat.zero_add] at this
      exact this
    obtain ⟨ws', tr', row', ord', bo', co', e1, e2⟩ := d2 (n := (lst f A 0).length) (l := lst f A 0) (wt := wn) (C := cF r gn) (who := who') (order := ord) (bo := bo) A5 (by omega) hCO hlt w3 (fun a ha => (hg a ha).2) hN (lst f A 0).length vF 0 ws tr rw' costs rfl (by omega) (by show (lst f A 0).length < 20000; omega) (fun i' j hi' hj => absurd hi' (Nat.not_lt_zero i'))
    have hP : ∀ j, j < (lst f A 0).length → (bst (fun i j => cF r gn ((lst f A 0).getD i 0) (wn ((lst f A 0).getD j 0))) (lst f A 0).length 0 (List.range (lst f A 0).length)).2.getD j 0 < (lst f A 0).length := by
      intro j hj
      obtain ⟨b1, b2⟩ := bst_ok (fun i j => cF r gn ((lst f A 0).getD i 0) (wn ((lst f A 0).getD j 0))) (lst f A 0).length 0 (List.range (lst f A 0).length) List.length_range
      exact List.mem_range.1 (b2 _ (mem_g _ _ (by omega)))
    unfold sX9_freshOnes sX9_deals
    rw [w1, v_b]
    dsimp only
    rw [e1, v_b]
    dsimp only
    rw [s33 (A := A) (W := W) A5 (by omega) hlt w3 (fun a ha => (hg a ha).2) e2 hP (lst f A 0).length vF 0 (-4) rfl (by omega) (by show (lst f A 0).length < 20000; omega)]
    refine ⟨_, rfl, ?_⟩
    rw [u2]
    dsimp only
    by_cases c : x = -1
    · rw [if_pos c, if_pos c]
    · rw [if_neg c, if_neg c, lkr_lk]
      intro k k' k1 k2 k3 k4
      rw [decide_eq_true_eq] at k4
      rw [decide_eq_false_iff_not]
      intro k5
      have i1 := lst_inc (f := f) (d := A) (a := 0) k2 (by omega)
      have i2 := hlt k (by omega)
      have i3 := hlt k' (by omega)
      rw [← k4] at k5
      have := (nI_eq (show (lst f A 0).getD k' 0 < 2147483648 by omega) (show (lst f A 0).getD k 0 < 2147483648 by omega)).1 k5
      omega
  unfold sX8_send sX9_send
  by_cases c : x = -1
  · rw [vi_p c, vi_p c, sX1_start, v_b]
    exact core
  · rw [vi_n c, vi_n c, e_isActor3 A5, e_isActor9 A5 h2, v_b, v_b]
    by_cases h : 0 ≤ x.toInt ∧ x.toInt < A
    · rw [if_pos h, vi_n n10, vi_n n10, sX1_start, v_b]
      exact core
    · rw [if_neg h, vi_p nI_0, vi_p nI_0]
      exact ⟨_, rfl, _, rfl, rfl⟩
end SEND

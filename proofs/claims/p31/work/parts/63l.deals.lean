/-! values: the reference's orders: of all deals, of all queues the first least -/
section DEALS
variable {W L A : Nat} {com len par lik : Nat → Int32} {fb hb pr : Int32} {r sc gn : Nat → Int32}
theorem d95 {n : Nat} {l : List Nat} {order costs : Nat → Int32} {c : Nat → Nat → Nat} {K : Int32 → Option (Int32 × (Nat → Int32) × (Nat → Int32) × (Nat → Int32) × (Nat → Int32) × (Nat → Int32) × (Nat → Int32))} (hn : n ≤ 5) (ho : agr n order (oL l)) (hl : okL n l = true) (hc : ∀ i j, i < n → j < n → costs (5 * i + j) = nI (c i j)) : ∀ (d fuel i s : Nat), d = n - i → i ≤ n → d < fuel → LX9_deals_95 (nI n) order costs K fuel (nI s) (nI i) = K (nI (s + cs c i (l.drop i))) := by
  obtain ⟨l1, l2⟩ := okL_l hl
  intro d
  induction d with
  | zero =>
    intro fuel i s q1 q2 q3
    obtain ⟨f, rfl⟩ : ∃ f, fuel = f + 1 := ⟨fuel - 1, by omega⟩
    rw [LX9_deals_95, vi_p (show nI n ≤ nI i from by rw [n_le (by omega) (by omega)]; omega), List.drop_eq_nil_of_le (by omega)]
    rfl
  | succ d ih =>
    intro fuel i s q1 q2 q3
    obtain ⟨f, rfl⟩ : ∃ f, fuel = f + 1 := ⟨fuel - 1, by omega⟩
    have hi : i < n := by omega
    have o1 : order i = nI (l.getD i 0) := ho i hi
    have hj := l2 i hi
    rw [LX9_deals_95, vi_n (show ¬ nI n ≤ nI i from by rw [n_le (by omega) (by omega)]; omega), v_g (by omega) (by omega), n_cl (show i < 2147483648 by omega), o1, n_mul, nI_add, v_g (by omega) (by omega), n_cl (show 5 * i + l.getD i 0 < 2147483648 by omega), hc i _ hi hj]
    simp only [v_l, nI_add]
    rw [ih f (i + 1) _ (by omega) (by omega) (by omega), drop_g l i (by omega)]
    show K (nI (s + c i (l.getD i 0) + cs c (i + 1) (l.drop (i + 1)))) = K (nI (s + (c i (l.getD i 0) + cs c (i + 1) (l.drop (i + 1)))))
    rw [Nat.add_assoc]
theorem cpy_agr {n : Nat} {f g : Nat → Int32} {l : List Nat} (h : agr n f (oL l)) : agr n (va_cpy f g 0 0 n) (oL l) := by
  intro j hj
  rw [cpy_in (by omega) (by omega), show 0 + (j - 0) = j by omega]
  exact h j hj
set_option maxHeartbeats 2000000 in
theorem d85 {n : Nat} {costs ws tr row : Nat → Int32} {c : Nat → Nat → Nat} (hn : n ≤ 5) (hN : ∀ i j, c i j ≤ 9) (hc : ∀ i j, i < n → j < n → costs (5 * i + j) = nI (c i j)) : ∀ (T : List (List Nat)) (l : List Nat) (fuel m : Nat) (b : Option (List Nat)) (order bo : Nat → Int32), chk n (l :: T) = true → (∀ p, p ∈ l :: T → okL n p = true) → agr n order (oL l) → m ≤ 1000000 → (∀ p, b = some p → agr n bo (oL p)) → T.length + 2 ≤ fuel → ∃ order' bo', LX9_deals_85 (nI n) ws tr row costs fuel (nI m) (nI 1) order bo = some (nI (fmn (cs c 0) (l :: T) m b).1, ws, tr, row, order', bo', costs) ∧ ∀ p, (fmn (cs c 0) (l :: T) m b).2 = some p → agr n bo' (oL p) := by
  intro T
  induction T with
  | nil =>
    intro l fuel m b order bo h1 h2 h3 h4 h5 h6
    obtain ⟨f, rfl⟩ : ∃ f, fuel = f + 1 + 1 := ⟨fuel - 2, by simp only [List.length_nil] at h6; omega⟩
    have hok := h2 l List.mem_cons_self
    have hb : cs c 0 l ≤ 45 := by
      have := cs_le hN l 0
      rw [(okL_l hok).1] at this
      omega
    obtain ⟨o', e1⟩ := next_end hn h1 h3
    rw [LX9_deals_85, vi_n n10, d95 hn h3 hok hc n vF 0 0 rfl (by omega) (by show n < 20000; omega), List.drop_zero, Nat.zero_add, show fmn (cs c 0) [l] m b = if cs c 0 l < m then (cs c 0 l, some l) else (m, b) from rfl]
    by_cases q : cs c 0 l < m
    · rw [vi_n (show ¬ nI m ≤ nI (cs c 0 l) from by rw [n_le (by omega) (by omega)]; omega), e_copies (by omega) (by omega) (by decide) (by decide) (by omega), v_b, e1, v_b, LX9_deals_85, vi_p (show (nI 0, o').1 = 0 from nI_0), if_pos q]
      exact ⟨_, _, rfl, fun p hp => by cases hp; exact cpy_agr h3⟩
    · rw [vi_p (show nI m ≤ nI (cs c 0 l) from by rw [n_le (by omega) (by omega)]; omega), e1, v_b, LX9_deals_85, vi_p (show (nI 0, o').1 = 0 from nI_0), if_neg q]
      exact ⟨_, _, rfl, fun p hp => h5 p hp⟩
  | cons l' T ih =>
    intro l fuel m b order bo h1 h2 h3 h4 h5 h6
    obtain ⟨f, rfl⟩ : ∃ f, fuel = f + 1 := ⟨fuel - 1, by omega⟩
    have hok := h2 l List.mem_cons_self
    have hb : cs c 0 l ≤ 45 := by
      have := cs_le hN l 0
      rw [(okL_l hok).1] at this
      omega
    obtain ⟨o', e1, e2, e3⟩ := next_more hn h1 h3
    rw [LX9_deals_85, vi_n n10, d95 hn h3 hok hc n vF 0 0 rfl (by omega) (by show n < 20000; omega), List.drop_zero, Nat.zero_add, show fmn (cs c 0) (l :: l' :: T) m b = if cs c 0 l < m then fmn (cs c 0) (l' :: T) (cs c 0 l) (some l) else fmn (cs c 0) (l' :: T) m b from rfl]
    by_cases q : cs c 0 l < m
    · rw [vi_n (show ¬ nI m ≤ nI (cs c 0 l) from by rw [n_le (by omega) (by omega)]; omega), e_copies (by omega) (by omega) (by decide) (by decide) (by omega), v_b, e1, v_b, if_pos q]
      exact ih l' f _ (some l) _ _ e3 (fun p hp => h2 p (List.mem_cons_of_mem _ hp)) e2 (by omega) (fun p hp => by cases hp; exact cpy_agr h3) (by simp only [List.length_cons] at h6; omega)
    · rw [vi_p (show nI m ≤ nI (cs c 0 l) from by rw [n_le (by omega) (by omega)]; omega), e1, v_b, if_neg q]
      exact ih l' f _ b _ _ e3 (fun p hp => h2 p (List.mem_cons_of_mem _ hp)) e2 h4 h5 (by simp only [List.length_cons] at h6; omega)
theorem e_d85 {n : Nat} {costs ws tr row order bo : Nat → Int32} {c : Nat → Nat → Nat} (hn : n ≤ 5) (hN : ∀ i j, c i j ≤ 9) (hc : ∀ i j, i < n → j < n → costs (5 * i + j) = nI (c i j)) (ho : agr n order (oL (List.range n))) : ∃ order' bo', LX9_deals_85 (nI n) ws tr row costs vF (nI 1000000) (nI 1) order bo = some (nI (bst c n 0 (List.range n)).1, ws, tr, row, order', bo', costs) ∧ agr n bo' (oL (bst c n 0 (List.range n)).2) := by
  obtain ⟨T, hT⟩ := perm_cons hn
  obtain ⟨p1, p2⟩ := perm_ok n hn
  have p3 := chk_ok n hn
  rw [hT] at p1 p2 p3
  obtain ⟨order', bo', e1, e2⟩ := d85 (costs := costs) (ws := ws) (tr := tr) (row := row) hn hN hc T (List.range n) vF 1000000 none order bo p3 (fun p hp => List.all_eq_true.1 p1 p hp) ho (Nat.le_refl _) (fun p hp => by cases hp) (by simp only [List.length_cons] at p2; show T.length + 2 ≤ 20000; omega)
  have hb : om (cs c 0) (perm n (List.range n)) = some (bst c n 0 (List.range n)) := best_bst c n 0 (List.range n) List.length_range
  have hle : (bst c n 0 (List.range n)).1 < 1000000 := by
    have := bst_le hN n 0 (List.range n)
    omega
  have hf : fmn (cs c 0) (List.range n :: T) 1000000 none = ((bst c n 0 (List.range n)).1, some (bst c n 0 (List.range n)).2) := by
    rw [fmn_om, ← hT, hb]
    exact if_pos hle
  rw [hf] at e1 e2
  exact ⟨order', bo', e1, e2 _ rfl⟩
/-! a row of actors -/
def lst (f : Nat → Bool) : Nat → Nat → List Nat
  | 0, _ => []
  | d + 1, a => if f a then a :: lst f d (a + 1) else lst f d (a + 1)
theorem lst_y {f : Nat → Bool} {d a : Nat} (h : f a = true) : lst f (d + 1) a = a :: lst f d (a + 1) := if_pos h
theorem lst_n {f : Nat → Bool} {d a : Nat} (h : f a = false) : lst f (d + 1) a = lst f d (a + 1) := if_neg (by rw [h]; decide)
theorem lst_len (f : Nat → Bool) : ∀ d a, (lst f d a).length ≤ d := by
  intro d
  induction d with
  | zero => intro a; exact Nat.le_refl 0
  | succ d ih =>
    intro a
    have := ih (a + 1)
    cases h : f a with
    | true => rw [lst_y h, List.length_cons]; omega
    | false => rw [lst_n h]; omega
theorem lst_mem {f : Nat → Bool} : ∀ {d a x : Nat}, x ∈ lst f d a → a ≤ x ∧ x < a + d ∧ f x = true := by
  intro d
  induction d with
  | zero => intro a x h; cases h
  | succ d ih =>
    intro a x h
    cases e : f a with
    | true =>
      rw [lst_y e] at h
      rcases List.mem_cons.1 h with q | q
      · subst q; exact ⟨by omega, by omega, e⟩
      · have := ih q; exact ⟨by omega, by omega, this.2.2⟩
    | false =>
      rw [lst_n e] at h
      have := ih h
      exact ⟨by omega, by omega, this.2.2⟩
theorem lst_in {f : Nat → Bool} : ∀ {d a x : Nat}, a ≤ x → x < a + d → f x = true → x ∈ lst f d a := by
  intro d
  induction d with
  | zero => intro a x h1 h2; omega
  | succ d ih =>
    intro a x h1 h2 h3
    by_cases e : x = a
    · subst e; rw [lst_y h3]; exact List.mem_cons_self
    · have := ih (a := a + 1) (by omega) (by omega) h3
      cases q : f a with
      | true => rw [lst_y q]; exact List.mem_cons_of_mem _ this
      | false => rw [lst_n q]; exact this
theorem lst_inc {f : Nat → Bool} : ∀ {d a i j : Nat}, i < j → j < (lst f d a).length → (lst f d a).getD i 0 < (lst f d a).getD j 0 := by
  intro d
  induction d with
  | zero => intro a i j h1 h2; exact absurd h2 (Nat.not_lt_zero j)
  | succ d ih =>
    intro a i j h1 h2
    cases e : f a with
    | true =>
      rw [lst_y e] at h2 ⊢
      obtain ⟨k, rfl⟩ : ∃ k, j = k + 1 := ⟨j - 1, by omega⟩
      have h2 : k < (lst f d (a + 1)).length := by simpa using h2
      cases i with
      | zero =>
        show a < (lst f d (a + 1)).getD k 0
        have := (lst_mem (mem_g _ _ h2)).1
        omega
      | succ i => exact ih (by omega) h2
    | false =>
      rw [lst_n e] at h2 ⊢
      exact ih h1 h2
/-- where a row holds a number -/
def lk (h : Nat → Bool) (g : Nat → Int32) : Nat → Nat → Int32
  | 0, _ => -4
  | d + 1, i => if h i then g i else lk h g d (i + 1)
def lkr (h : Nat → Bool) (g : Nat → Int32) : Nat → Nat → Int32 → Int32
  | 0, _, y => y
  | d + 1, i, y => lkr h g d (i + 1) (if h i then g i else y)
theorem lkr_no {h : Nat → Bool} {g : Nat → Int32} : ∀ (d i : Nat) (y : Int32), (∀ k, i ≤ k → k < i + d → h k = false) → lkr h g d i y = y := by
  intro d
  induction d with
  | zero => intro i y _; rfl
  | succ d ih =>
    intro i y q
    show lkr h g d (i + 1) (if h i then g i else y) = y
    rw [q i (by omega) (by omega), if_neg (by decide)]
    exact ih (i + 1) y (fun k k1 k2 => q k (by omega) (by omega))
theorem lkr_lk {h : Nat → Bool} {g : Nat → Int32} : ∀ (d i : Nat), (∀ k k', i ≤ k → k < k' → k' < i + d → h k = true → h k' = false) → lkr h g d i (-4) = lk h g d i := by
  intro d
  induction d with
  | zero => intro i _; rfl
  | succ d ih =>
    intro i q
    show lkr h g d (i + 1) (if h i then g i else -4) = if h i then g i else lk h g d (i + 1)
    cases e : h i with
    | true =>
      rw [if_pos rfl, if_pos rfl]
      exact lkr_no d (i + 1) _ (fun k k1 k2 => q i k (by omega) (by omega) (by omega) e)
    | false =>
      rw [if_neg (by decide), if_neg (by decide)]
      exact ih (i + 1) (fun k k' k1 k2 k3 => q k k' (by omega) k2 (by omega))
/-- the reference's row of actors who wait and have shown nothing; who wait -/
theorem fresh9 {f : Nat → Bool} (hA : A ≤ 5) (h2 : r 2 = nI A) (hf : ∀ a, a < A → sX9_isFresh gn (nI a) = some (if f a then nI 1 else nI 0)) : ∀ (d fuel a k : Nat) (who : Nat → Int32), d = A - a → a ≤ A → d < fuel → k ≤ a → ∃ who', LX9_freshOnes_4 r gn fuel (nI k) (nI a) who = some (nI (k + (lst f d a).length), who') ∧ (∀ j, j < k → who' j = who j) ∧ ∀ j, j < (lst f d a).length → who' (k + j) = nI ((lst f d a).getD j 0) := by
  intro d
  induction d with
  | zero =>
    intro fuel a k who q1 q2 q3 q4
    obtain ⟨g, rfl⟩ : ∃ f, fuel = f + 1 := ⟨fuel - 1, by omega⟩
    rw [LX9_freshOnes_4, n_cl (show 2 < 2147483648 by decide), h2, vi_p (show nI A ≤ nI a from by rw [n_le (by omega) (by omega)]; omega)]
    exact ⟨_, rfl, fun j _ => rfl, fun j hj => absurd hj (Nat.not_lt_zero j)⟩
  | succ d ih =>
    intro fuel a k who q1 q2 q3 q4
    obtain ⟨g, rfl⟩ : ∃ f, fuel = f + 1 := ⟨fuel - 1, by omega⟩
    rw [LX9_freshOnes_4, n_cl (show 2 < 2147483648 by decide), h2, vi_n (show ¬ nI A ≤ nI a from by rw [n_le (by omega) (by omega)]; omega), hf a (by omega), v_b]
    cases e : f a with
    | true =>
      rw [if_pos rfl, vi_n n10, v_g (by omega) (by omega), n_cl (by omega)]
      simp only [v_l, nI_add]
      obtain ⟨w', w1, w2, w3⟩ := ih g (a + 1) (k + 1) (upd who k (nI a)) (by omega) (by omega) (by omega) (by omega)
      rw [lst_y e]
      refine ⟨w', by rw [w1, List.length_cons]; congr 3; omega, fun j hj => by rw [w2 j (by omega), u_ne (by omega)], fun j hj => ?_⟩
      cases j with
      | zero => rw [Nat.add_zero, w2 k (by omega), u_eq rfl]; rfl
      | succ j => rw [show k + (j + 1) = k + 1 + j by omega, w3 j (by simpa using hj)]; rfl
    | false =>
      rw [if_neg (by decide), vi_p nI_0]
      simp only [v_l, nI_add]
      rw [lst_n e]
      exact ih g (a + 1) k who (by omega) (by omega) (by omega) (by omega)
theorem wait9 {f : Nat → Bool} (hA : A ≤ 5) (h2 : r 2 = nI A) (hf : ∀ a, a < A → sX9_waits gn (nI a) = some (if f a then nI 1 else nI 0)) : ∀ (d fuel a k : Nat) (who : Nat → Int32), d = A - a → a ≤ A → d < fuel → k ≤ a → ∃ who', LX9_waitingOnes_4 r gn fuel (nI k) (nI a) who = some (nI (k + (lst f d a).length), who') ∧ (∀ j, j < k → who' j = who j) ∧ ∀ j, j < (lst f d a).length → who' (k + j) = nI ((lst f d a).getD j 0) := by
  intro d
  induction d with
  | zero =>
    intro fuel a k who q1 q2 q3 q4
    obtain ⟨g, rfl⟩ : ∃ f, fuel = f + 1 := ⟨fuel - 1, by omega⟩
    rw [LX9_waitingOnes_4, n_cl (show 2 < 2147483648 by decide), h2, vi_p (show nI A ≤ nI a from by rw [n_le (by omega) (by omega)]; omega)]
    exact ⟨_, rfl, fun j _ => rfl, fun j hj => absurd hj (Nat.not_lt_zero j)⟩
  | succ d ih =>
    intro fuel a k who q1 q2 q3 q4
    obtain ⟨g, rfl⟩ : ∃ f, fuel = f + 1 := ⟨fuel - 1, by omega⟩
    rw [LX9_waitingOnes_4, n_cl (show 2 < 2147483648 by decide), h2, vi_n (show ¬ nI A ≤ nI a from by rw [n_le (by omega) (by omega)]; omega), hf a (by omega), v_b]
    cases e : f a with
    | true =>
      rw [if_pos rfl, vi_n n10, v_g (by omega) (by omega), n_cl (by omega)]
      simp only [v_l, nI_add]
      obtain ⟨w', w1, w2, w3⟩ := ih g (a + 1) (k + 1) (upd who k (nI a)) (by omega) (by omega) (by omega) (by omega)
      rw [lst_y e]
      refine ⟨w', by rw [w1, List.length_cons]; congr 3; omega, fun j hj => by rw [w2 j (by omega), u_ne (by omega)], fun j hj => ?_⟩
      cases j with
      | zero => rw [Nat.add_zero, w2 k (by omega), u_eq rfl]; rfl
      | succ j => rw [show k + (j + 1) = k + 1 + j by omega, w3 j (by simpa using hj)]; rfl
    | false =>
      rw [if_neg (by decide), vi_p nI_0]
      simp only [v_l, nI_add]
      rw [lst_n e]
      exact ih g (a + 1) k who (by omega) (by omega) (by omega) (by omega)
/-- what an actor's signs for a word cost: as many as FEWEST, 9 if there are none -/
def CO (r gn : Nat → Int32) (W A : Nat) (C : Nat → Nat → Nat) : Prop := ∀ a, a < A → ∀ w, w < W → ∀ ws tr row, ∃ v ws' tr' row', sX9_fewestFor r gn ws tr row (nI a) (nI w) = some (v, ws', tr', row') ∧ ((v = -4 ∧ C a w = 9) ∨ ∃ m, m ≤ 3 ∧ v = nI m ∧ C a w = m)
set_option maxHeartbeats 2000000 in
theorem d9 {n i : Nat} {l : List Nat} {wt : Nat → Nat} {C : Nat → Nat → Nat} {who : Nat → Int32} {K : (Nat → Int32) → (Nat → Int32) → (Nat → Int32) → (Nat → Int32) → Option (Int32 × (Nat → Int32) × (Nat → Int32) × (Nat → Int32) × (Nat → Int32) × (Nat → Int32) × (Nat → Int32))} (hA : A ≤ 5) (hn : n ≤ 5) (hi : i < n) (hC : CO r gn W A C) (hl : ∀ j, j < n → l.getD j 0 < A) (hw : ∀ j, j < n → who j = nI (l.getD j 0)) (hg : ∀ a, a < A → gn a = nI (wt a) ∧ wt a < W) : ∀ (d fuel j : Nat) (ws tr row costs : Nat → Int32), d = n - j → j ≤ n → d < fuel → ∃ ws' tr' row' costs', LX9_deals_9 (nI n) (nI i) r gn who K fuel (nI j) ws tr row costs = K ws' tr' row' costs' ∧ (∀ t, t < 5 * i + j ∨ 5 * i + n ≤ t → costs' t = costs t) ∧ ∀ k, j ≤ k → k < n → costs' (5 * i + k) = nI (C (l.getD i 0) (wt (l.getD k 0))) := by
  intro d
  induction d with
  | zero =>
    intro fuel j ws tr row costs q1 q2 q3
    obtain ⟨f, rfl⟩ : ∃ f, fuel = f + 1 := ⟨fuel - 1, by omega⟩
    rw [LX9_deals_9, vi_p (show nI n ≤ nI j from by rw [n_le (by omega) (by omega)]; omega)]
    exact ⟨_, _, _, _, rfl, fun t _ => rfl, fun k k1 k2 => absurd k1 (by omega)⟩
  | succ d ih =>
    intro fuel j ws tr row costs q1 q2 q3
    obtain ⟨f, rfl⟩ : ∃ f, fuel = f + 1 := ⟨fuel - 1, by omega⟩
    have a1 : d = n - (j + 1) := by omega
    have a2 : j + 1 ≤ n := by omega
    have a3 : d < f := by omega
    have la := hl i hi
    have lb := hl j (by omega)
    obtain ⟨g1, g2⟩ := hg _ lb
    obtain ⟨v, ws', tr', row', v1, v2⟩ := hC _ la _ g2 ws tr row
    rw [LX9_deals_9, vi_n (show ¬ nI n ≤ nI j from by rw [n_le (by omega) (by omega)]; omega), v_g (show i < 5 by omega) (by omega), v_g (show j < 5 by omega) (by omega), n_cl (show i < 2147483648 by omega), n_cl (show j < 2147483648 by omega), hw i hi, hw j (by omega), z_add, v_g (show l.getD j 0 < 50 by omega) (by omega), n_cl (show l.getD j 0 < 2147483648 by omega), g1, v1, v_b]
    dsimp only
    rw [n_mul, nI_add, v_g (show 5 * i + j < 25 by omega) (by omega), n_cl (show 5 * i + j < 2147483648 by omega)]
    have key : ∀ x : Int32, x = nI (C (l.getD i 0) (wt (l.getD j 0))) → ∃ ws'' tr'' row'' costs', LX9_deals_9 (nI n) (nI i) r gn who K f (nI (j + 1)) ws' tr' row' (upd costs (5 * i + j) x) = K ws'' tr'' row'' costs' ∧ (∀ t, t < 5 * i + j ∨ 5 * i + n ≤ t → costs' t = costs t) ∧ ∀ k, j ≤ k → k < n → costs' (5 * i + k) = nI (C (l.getD i 0) (wt (l.getD k 0))) := by
      intro x hx
      obtain ⟨ws'', tr'', row'', co', e1, e2, e3⟩ := ih f (j + 1) ws' tr' row' (upd costs (5 * i + j) x) a1 a2 a3
      refine ⟨ws'', tr'', row'', co', e1, fun t ht => by rw [e2 t (by omega), u_ne (by omega)], fun k k1 k2 => ?_⟩
      by_cases e : k = j
      · subst e; rw [e2 _ (by omega), u_eq rfl]; exact hx
      · exact e3 k (by omega) k2
    rcases v2 with ⟨e, e'⟩ | ⟨m, m1, e, e'⟩
    · rw [vi_p e]
      simp only [v_l, nI_add]
      exact key _ (by rw [e'])
    · rw [vi_n (show ¬ v = -4 from by rw [e]; exact m4 (by omega)), v_g (show 5 * i + j < 25 by omega) (by omega)]
      simp only [v_l, nI_add]
      exact key v (by rw [e, e'])
set_option maxHeartbeats 2000000 in
theorem d2 {n : Nat} {l : List Nat} {wt : Nat → Nat} {C : Nat → Nat → Nat} {who order bo : Nat → Int32} (hA : A ≤ 5) (hn : n ≤ 5) (hC : CO r gn W A C) (hl : ∀ j, j < n → l.getD j 0 < A) (hw : ∀ j, j < n → who j = nI (l.getD j 0)) (hg : ∀ a, a < A → gn a = nI (wt a) ∧ wt a < W) (hN : ∀ a w, C a w ≤ 9) : ∀ (d fuel i : Nat) (ws tr row costs : Nat → Int32), d = n - i → i ≤ n → d < fuel → (∀ i' j, i' < i → j < n → costs (5 * i' + j) = nI (C (l.getD i' 0) (wt (l.getD j 0)))) → ∃ ws' tr' row' order' bo' costs', LX9_deals_2 (nI n) r gn who order bo fuel (nI i) ws tr row costs = some (nI (bst (fun i j => C (l.getD i 0) (wt (l.getD j 0))) n 0 (List.range n)).1, ws', tr', row', order', bo', costs') ∧ agr n bo' (oL (bst (fun i j => C (l.getD i 0) (wt (l.getD j 0))) n 0 (List.range n)).2) := by
  intro d
  induction d with
  | zero =>
    intro fuel i ws tr row costs q1 q2 q3 q4
    obtain ⟨f, rfl⟩ : ∃ f, fuel = f + 1 := ⟨fuel - 1, by omega⟩
    obtain ⟨o, o1, o2⟩ := e_firstOrder hn order
    obtain ⟨o', bo', e1, e2⟩ := e_d85 (costs := costs) (ws := ws) (tr := tr) (row := row) (order := o) (bo := bo) (c := fun i j => C (l.getD i 0) (wt (l.getD j 0))) hn (fun i j => hN _ _) (fun i j hi hj => q4 i j (by omega) hj) o2
    rw [LX9_deals_2, vi_p (show nI n ≤ nI i from by rw [n_le (by omega) (by omega)]; omega), o1, v_b, e1]
    exact ⟨_, _, _, _, _, _, rfl, e2⟩
  | succ d ih =>
    intro fuel i ws tr row costs q1 q2 q3 q4
    obtain ⟨f, rfl⟩ : ∃ f, fuel = f + 1 := ⟨fuel - 1, by omega⟩
    rw [LX9_deals_2, vi_n (show ¬ nI n ≤ nI i from by rw [n_le (by omega) (by omega)]; omega)]
    obtain ⟨ws', tr', row', co', e1, e2, e3⟩ := d9 (n := n) (i := i) (l := l) (wt := wt) (C := C) (who := who) (K := fun (v26 : Nat → Int32) (v27 : Nat → Int32) (v28 : Nat → Int32) (v29 : Nat → Int32) => vlet (nI i + nI 1) fun y30 => LX9_deals_2 (nI n) r gn who order bo f y30 v26 v27 v28 v29) hA hn (by omega) hC hl hw hg n vF 0 ws tr row costs rfl (by omega) (by show n < 20000; omega)
    rw [e1]
    simp only [v_l, nI_add]
    refine ih f (i + 1) ws' tr' row' co' (by omega) (by omega) (by omega) (fun i' j hi' hj => ?_)
    by_cases e : i' = i
    · subst e; exact e3 j (by omega) hj
    · rw [e2 _ (by omega)]; exact q4 i' j (by omega) hj
end DEALS

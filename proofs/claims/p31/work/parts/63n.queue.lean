/-! values: QUEUE -/
section QUEUE
variable {W L A : Nat} {com len par lik : Nat → Int32} {fb hb pr : Int32} {r sc gn : Nat → Int32}
/-- how long a row waits -/
def wsu (u : Nat → Nat) : Nat → List Nat → Nat
  | _, [] => 0
  | t, j :: l => t + wsu u (t + u j) l
def cq (u : Nat → Nat) (n i j : Nat) : Nat := u j * (n - 1 - i)
theorem wsu_cs {u : Nat → Nat} {n : Nat} : ∀ (l : List Nat) (t : Nat), l.length ≤ n → wsu u t l = t * l.length + cs (cq u n) (n - l.length) l := by
  intro l
  induction l with
  | nil => intro t _; rfl
  | cons j l ih =>
    intro t h
    rw [List.length_cons] at h
    show t + wsu u (t + u j) l = t * (l.length + 1) + (u j * (n - 1 - (n - (l.length + 1))) + cs (cq u n) (n - (l.length + 1) + 1) l)
    rw [ih (t + u j) (by omega), show n - 1 - (n - (l.length + 1)) = l.length by omega, show n - (l.length + 1) + 1 = n - l.length by omega, Nat.add_mul, Nat.mul_succ]
    omega
theorem wsu_le {u : Nat → Nat} {n : Nat} (hn : n ≤ 5) (hu : ∀ j, u j ≤ 9) {l : List Nat} (hl : l.length = n) : wsu u 0 l ≤ 200 := by
  rw [wsu_cs l 0 (Nat.le_of_eq hl), Nat.zero_mul, Nat.zero_add]
  have h : ∀ i j, cq u n i j ≤ 36 := by
    intro i j
    have := Nat.mul_le_mul (hu j) (show n - 1 - i ≤ 4 by omega)
    exact this
  have := cs_le h l (n - l.length)
  rw [hl] at this ⊢
  omega
/-! the first least of all queues: one after the other the first of the shortest -/
def mn (u : Nat → Nat) (x : Nat) : List Nat → Nat
  | [] => 0
  | k :: l => (x - (x - u k)) + mn u x l
def ex (u : Nat → Nat) (x : Nat) : List Nat → Nat
  | [] => 0
  | k :: l => (x - u k) + ex u x l
def pw (u : Nat → Nat) : List Nat → Nat
  | [] => 0
  | k :: l => mn u (u k) l + pw u l
theorem mn_ex (u : Nat → Nat) (x : Nat) : ∀ l : List Nat, x * l.length = mn u x l + ex u x l := by
  intro l
  induction l with
  | nil => rfl
  | cons k l ih =>
    show x * (l.length + 1) = ((x - (x - u k)) + mn u x l) + ((x - u k) + ex u x l)
    rw [Nat.mul_succ, ih]
    omega
theorem er_tail {j k : Nat} {l : List Nat} (h : ¬ k = j) : (k :: l).erase j = k :: l.erase j := List.erase_cons_tail (by rw [beq_iff_eq]; exact h)
theorem mn_er (u : Nat → Nat) (x : Nat) {j : Nat} : ∀ {l : List Nat}, j ∈ l → mn u x l = (x - (x - u j)) + mn u x (l.erase j) := by
  intro l
  induction l with
  | nil => intro h; cases h
  | cons k l ih =>
    intro h
    by_cases e : k = j
    · subst e; rw [List.erase_cons_head]; rfl
    · have hm : j ∈ l := by
        rcases List.mem_cons.1 h with q | q
        · exact absurd q.symm e
        · exact q
      have := ih hm
      rw [er_tail e]
      show (x - (x - u k)) + mn u x l = (x - (x - u j)) + ((x - (x - u k)) + mn u x (l.erase j))
      omega
theorem ex_er (u : Nat → Nat) (x : Nat) {j : Nat} : ∀ {l : List Nat}, j ∈ l → ex u x l = (x - u j) + ex u x (l.erase j) := by
  intro l
  induction l with
  | nil => intro h; cases h
  | cons k l ih =>
    intro h
    by_cases e : k = j
    · subst e; rw [List.erase_cons_head]; rfl
    · have hm : j ∈ l := by
        rcases List.mem_cons.1 h with q | q
        · exact absurd q.symm e
        · exact q
      have := ih hm
      rw [er_tail e]
      show (x - u k) + ex u x l = (x - u j) + ((x - u k) + ex u x (l.erase j))
      omega
theorem pw_er (u : Nat → Nat) {j : Nat} : ∀ {l : List Nat}, j ∈ l → pw u l = mn u (u j) (l.erase j) + pw u (l.erase j) := by
  intro l
  induction l with
  | nil => intro h; cases h
  | cons k l ih =>
    intro h
    by_cases e : k = j
    · subst e; rw [List.erase_cons_head]; rfl
    · have hm : j ∈ l := by
        rcases List.mem_cons.1 h with q | q
        · exact absurd q.symm e
        · exact q
      have h1 := ih hm
      have h2 := mn_er u (u k) hm
      rw [er_tail e]
      show mn u (u k) l + pw u l = ((u j - (u j - u k)) + mn u (u j) (l.erase j)) + (mn u (u k) (l.erase j) + pw u (l.erase j))
      omega
theorem ex_le (u : Nat → Nat) {x y : Nat} (h : x ≤ y) : ∀ l : List Nat, ex u x l ≤ ex u y l := by
  intro l
  induction l with
  | nil => exact Nat.le_refl 0
  | cons k l ih =>
    show (x - u k) + ex u x l ≤ (y - u k) + ex u y l
    omega
theorem ex_lt (u : Nat → Nat) {k y : Nat} {l : List Nat} (hk : k ∈ l) (h : u k < y) : ex u (u k) l < ex u y l := by
  rw [ex_er u (u k) hk, ex_er u y hk]
  have := ex_le u (Nat.le_of_lt h) (l.erase k)
  omega
theorem ex_0 (u : Nat → Nat) {x : Nat} : ∀ {l : List Nat}, (∀ k, k ∈ l → x ≤ u k) → ex u x l = 0 := by
  intro l
  induction l with
  | nil => intro _; rfl
  | cons k l ih =>
    intro h
    have h1 := h k List.mem_cons_self
    have h2 := ih (fun j hj => h j (List.mem_cons_of_mem _ hj))
    show (x - u k) + ex u x l = 0
    omega
theorem om_least {f : Nat → Nat} : ∀ {xs : List Nat} {m b : Nat}, om f xs = some (m, b) → ∀ x, x ∈ xs → m ≤ f x := by
  intro xs
  induction xs with
  | nil => intro m b h; cases h
  | cons x xs ih =>
    intro m b h y hy
    cases e : om f xs with
    | none =>
      rw [om_c0 e] at h
      cases h
      rcases List.mem_cons.1 hy with q | q
      · rw [q]; exact Nat.le_refl _
      · cases xs with
        | nil => cases q
        | cons z zs =>
          obtain ⟨m', b', e'⟩ := om_some (f := f) (x := z) (xs := zs)
          rw [e] at e'
          cases e'
    | some a =>
      obtain ⟨m1, b1⟩ := a
      rw [om_c1 e] at h
      have i1 := ih e
      by_cases c : m1 < f x
      · rw [if_pos c] at h
        cases h
        rcases List.mem_cons.1 hy with q | q
        · rw [q]; omega
        · exact i1 y q
      · rw [if_neg c] at h
        cases h
        rcases List.mem_cons.1 hy with q | q
        · rw [q]; exact Nat.le_refl _
        · have := i1 y q; omega
def sel (u : Nat → Nat) : Nat → List Nat → List Nat
  | 0, _ => []
  | d + 1, l => match om u l with
    | none => []
    | some (_, j) => j :: sel u d (l.erase j)
theorem sel_s {u : Nat → Nat} {d m j : Nat} {l : List Nat} (e : om u l = some (m, j)) : sel u (d + 1) l = j :: sel u d (l.erase j) := by
  rw [sel, e]
theorem bst_sel {u : Nat → Nat} {n : Nat} : ∀ (d : Nat) (l : List Nat), l.length = d → d ≤ n → bst (cq u n) d (n - d) l = (pw u l, sel u d l) := by
  intro d
  induction d with
  | zero =>
    intro l hl _
    cases l with
    | nil => rfl
    | cons x xs => cases hl
  | succ d ih =>
    intro l hl hd
    obtain ⟨x, xs, e⟩ := ne_nil hl
    obtain ⟨m, j, e1⟩ := om_some (f := u) (x := x) (xs := xs)
    rw [← e] at e1
    obtain ⟨e2, e3⟩ := om_in e1
    have h0 : ∀ k, k ∈ l → cq u n (n - (d + 1)) k + (bst (cq u n) d (n - (d + 1) + 1) (l.erase k)).1 = pw u l + ex u (u k) l := by
      intro k hk
      have hlen := er_len hl hk
      rw [show n - (d + 1) + 1 = n - d by omega, ih (l.erase k) hlen (by omega)]
      have h1 : cq u n (n - (d + 1)) k = u k * (l.erase k).length := by
        rw [hlen]
        unfold cq
        rw [show n - 1 - (n - (d + 1)) = d by omega]
      have h2 := mn_ex u (u k) (l.erase k)
      have h3 := pw_er u hk
      have h4 := ex_er u (u k) hk
      dsimp only
      omega
    have h1 : om (fun k => cq u n (n - (d + 1)) k + (bst (cq u n) d (n - (d + 1) + 1) (l.erase k)).1) l = some (pw u l + ex u (u j) l, j) := by
      rw [om_congr h0, om_mono (f := u) (g := fun k => pw u l + ex u (u k) l) (fun a b ha hb => ?_), e1]
      · rfl
      · refine ⟨fun h => ?_, fun h => ?_⟩
        · by_cases c : u a < u b
          · exact c
          · have := ex_le u (show u b ≤ u a by omega) l
            omega
        · have := ex_lt u ha h
          show pw u l + ex u (u a) l < pw u l + ex u (u b) l
          omega
    rw [bst_s h1, ex_0 u (fun k hk => by rw [← e2]; exact om_least e1 k hk), Nat.add_zero, sel_s e1, show n - (d + 1) + 1 = n - d by omega, ih (l.erase j) (er_len hl e3) (by omega)]
theorem om_sel {u : Nat → Nat} {n : Nat} (hn : n ≤ 5) : ∃ v, om (wsu u 0) (perm n (List.range n)) = some (v, sel u n (List.range n)) := by
  obtain ⟨p1, -⟩ := perm_ok n hn
  have h : om (wsu u 0) (perm n (List.range n)) = om (cs (cq u n) 0) (perm n (List.range n)) := om_congr (fun l hl => by
    have := (okL_l (List.all_eq_true.1 p1 l hl)).1
    rw [wsu_cs (n := n) l 0 (by omega), Nat.zero_mul, Nat.zero_add, this, Nat.sub_self])
  have hb : om (cs (cq u n) 0) (perm n (List.range n)) = some (bst (cq u n) n 0 (List.range n)) := best_bst (cq u n) n 0 (List.range n) List.length_range
  have h2 := bst_sel (u := u) (n := n) n (List.range n) List.length_range (Nat.le_refl n)
  rw [Nat.sub_self] at h2
  rw [h, hb, h2]
  exact ⟨_, rfl⟩
/-! the class's row: put in behind those who take no longer -/
def ins (u : Nat → Nat) (x : Nat) : List Nat → List Nat
  | [] => [x]
  | y :: l => if u x < u y then x :: y :: l else y :: ins u x l
theorem ins_y {u : Nat → Nat} {x y : Nat} {l : List Nat} (h : u x < u y) : ins u x (y :: l) = x :: y :: l := if_pos h
theorem ins_n {u : Nat → Nat} {x y : Nat} {l : List Nat} (h : ¬ u x < u y) : ins u x (y :: l) = y :: ins u x l := if_neg h
theorem sel_ins {u : Nat → Nat} {x : Nat} : ∀ (d : Nat) (l : List Nat), l.length = d → ¬ x ∈ l → sel u (d + 1) (l ++ [x]) = ins u x (sel u d l) := by
  intro d
  induction d with
  | zero =>
    intro l hl _
    cases l with
    | nil => rfl
    | cons y ys => cases hl
  | succ d ih =>
    intro l hl hx
    obtain ⟨y, ys, e⟩ := ne_nil hl
    obtain ⟨m, j, e1⟩ := om_some (f := u) (x := y) (xs := ys)
    rw [← e] at e1
    obtain ⟨e2, e3⟩ := om_in e1
    have h := om_app u l [x]
    rw [e1, show om u [x] = some (u x, x) from rfl] at h
    rw [sel_s e1]
    by_cases c : u x < m
    · rw [show cmb (some (m, j)) (some (u x, x)) = some (u x, x) from if_pos c] at h
      rw [sel_s h, List.erase_append_right _ hx, List.erase_cons_head, List.append_nil, sel_s e1, ins_y (by omega)]
    · rw [show cmb (some (m, j)) (some (u x, x)) = some (m, j) from if_neg c] at h
      rw [sel_s h, List.erase_append_left _ e3, ih (l.erase j) (er_len hl e3) (fun q => hx (List.mem_of_mem_erase q)), ins_n (by omega)]
def srt (u : Nat → Nat) : List Nat → Prop
  | [] => True
  | y :: l => (∀ z, z ∈ l → u y ≤ u z) ∧ srt u l
theorem ins_mem {u : Nat → Nat} {x z : Nat} : ∀ {l : List Nat}, z ∈ ins u x l → z = x ∨ z ∈ l := by
  intro l
  induction l with
  | nil =>
    intro h
    rcases List.mem_cons.1 h with q | q
    · exact Or.inl q
    · cases q
  | cons y l ih =>
    intro h
    by_cases c : u x < u y
    · rw [ins_y c] at h
      exact List.mem_cons.1 h
    · rw [ins_n c] at h
      rcases List.mem_cons.1 h with q | q
      · rw [q]; exact Or.inr List.mem_cons_self
      · rcases ih q with w | w
        · exact Or.inl w
        · exact Or.inr (List.mem_cons_of_mem _ w)
theorem ins_srt {u : Nat → Nat} {x : Nat} : ∀ {l : List Nat}, srt u l → srt u (ins u x l) := by
  intro l
  induction l with
  | nil => intro _; exact ⟨fun z hz => (by cases hz), trivial⟩
  | cons y l ih =>
    intro h
    obtain ⟨h1, h2⟩ := h
    by_cases c : u x < u y
    · rw [ins_y c]
      refine ⟨fun z hz => ?_, h1, h2⟩
      rcases List.mem_cons.1 hz with q | q
      · rw [q]; omega
      · have := h1 z q; omega
    · rw [ins_n c]
      refine ⟨fun z hz => ?_, ih h2⟩
      rcases ins_mem hz with q | q
      · rw [q]; omega
      · exact h1 z q
theorem ins_len {u : Nat → Nat} {x : Nat} : ∀ {l : List Nat}, (ins u x l).length = l.length + 1 := by
  intro l
  induction l with
  | nil => rfl
  | cons y l ih =>
    by_cases c : u x < u y
    · rw [ins_y c]; rfl
    · rw [ins_n c, List.length_cons, List.length_cons, ih]
theorem ins_at {u : Nat → Nat} {x : Nat} : ∀ {l : List Nat} {p : Nat}, srt u l → p ≤ l.length → (∀ j, p ≤ j → j < l.length → u x < u (l.getD j 0)) → (p = 0 ∨ u (l.getD (p - 1) 0) ≤ u x) → ∀ j, (j < p → (ins u x l).getD j 0 = l.getD j 0) ∧ (j = p → (ins u x l).getD j 0 = x) ∧ (p < j → (ins u x l).getD j 0 = l.getD (j - 1) 0) := by
  intro l
  induction l with
  | nil =>
    intro p h1 h2 h3 h4 j
    have hp : p = 0 := Nat.le_zero.1 h2
    subst hp
    refine ⟨fun h => absurd h (Nat.not_lt_zero j), fun h => by rw [h]; rfl, fun h => ?_⟩
    obtain ⟨k, rfl⟩ : ∃ k, j = k + 1 := ⟨j - 1, by omega⟩
    rfl
  | cons y l ih =>
    intro p h1 h2 h3 h4 j
    obtain ⟨s1, s2⟩ := h1
    by_cases c : u x < u y
    · have hp : p = 0 := by
        rcases h4 with h | h
        · exact h
        · cases p with
          | zero => rfl
          | succ q =>
            exfalso
            have h : u ((y :: l).getD q 0) ≤ u x := h
            have h2 : q + 1 ≤ l.length + 1 := h2
            cases q with
            | zero => exact absurd (show u y ≤ u x from h) (by omega)
            | succ q =>
              have := s1 _ (mem_g l q (by omega))
              have h : u (l.getD q 0) ≤ u x := h
              omega
      subst hp
      rw [ins_y c]
      refine ⟨fun h => absurd h (Nat.not_lt_zero j), fun h => by rw [h]; rfl, fun h => ?_⟩
      obtain ⟨k, rfl⟩ : ∃ k, j = k + 1 := ⟨j - 1, by omega⟩
      rfl
    · rw [ins_n c]
      cases p with
      | zero => exact absurd (h3 0 (Nat.le_refl 0) (Nat.zero_lt_succ _)) c
      | succ q =>
        have h2 : q + 1 ≤ l.length + 1 := h2
        have i := ih (p := q) s2 (by omega) (fun j j1 j2 => h3 (j + 1) (by omega) (by rw [List.length_cons]; omega)) (by
          cases q with
          | zero => exact Or.inl rfl
          | succ q =>
            rcases h4 with h | h
            · cases h
            · exact Or.inr h)
        cases j with
        | zero => exact ⟨fun _ => rfl, fun h => (by cases h), fun h => absurd h (Nat.not_lt_zero _)⟩
        | succ k =>
          obtain ⟨i1, i2, i3⟩ := i k
          refine ⟨fun h => i1 (by omega), fun h => i2 (by omega), fun h => ?_⟩
          have := i3 (by omega)
          obtain ⟨k', rfl⟩ : ∃ k', k = k' + 1 := ⟨k - 1, by omega⟩
          exact this
theorem add_loop {a t k : Nat} {A0 M0 : Nat → Nat} (hk : k < 5) (ht : t ≤ 9) (hM : ∀ j, M0 j ≤ 9) : ∀ (p fuel : Nat) (acts mins : Nat → Int32), p < fuel → p ≤ k → (∀ j, j < p → acts j = nI (A0 j) ∧ mins j = nI (M0 j)) → (∀ j, p ≤ j → j < k → acts (j + 1) = nI (A0 j) ∧ mins (j + 1) = nI (M0 j)) → (∀ j, p ≤ j → j < k → t < M0 j) → ∃ acts' mins' p', LX2_add_21 (nI a) (nI t) (nI k) fuel (nI p) acts mins = some (acts', mins', nI (k + 1)) ∧ p' ≤ k ∧ (∀ j, p' ≤ j → j < k → t < M0 j) ∧ (p' = 0 ∨ M0 (p' - 1) ≤ t) ∧ (∀ j, j < p' → acts' j = nI (A0 j) ∧ mins' j = nI (M0 j)) ∧ (acts' p' = nI a ∧ mins' p' = nI t) ∧ ∀ j, p' ≤ j → j < k → acts' (j + 1) = nI (A0 j) ∧ mins' (j + 1) = nI (M0 j) := by
  have fin : ∀ (p : Nat) (acts mins : Nat → Int32), p ≤ k → (∀ j, j < p → acts j = nI (A0 j) ∧ mins j = nI (M0 j)) → (∀ j, p ≤ j → j < k → acts (j + 1) = nI (A0 j) ∧ mins (j + 1) = nI (M0 j)) → (∀ j, j < p → upd acts p (nI a) j = nI (A0 j) ∧ upd mins p (nI t) j = nI (M0 j)) ∧ (upd acts p (nI a) p = nI a ∧ upd mins p (nI t) p = nI t) ∧ ∀ j, p ≤ j → j < k → upd acts p (nI a) (j + 1) = nI (A0 j) ∧ upd mins p (nI t) (j + 1) = nI (M0 j) := by
    intro p acts mins h1 h2 h3
    refine ⟨fun j hj => ?_, ⟨u_eq rfl, u_eq rfl⟩, fun j hj hj' => ?_⟩
    · rw [u_ne (by omega), u_ne (by omega)]; exact h2 j hj
    · rw [u_ne (by omega), u_ne (by omega)]; exact h3 j hj hj'
  intro p
  induction p with
  | zero =>
    intro fuel acts mins q1 q2 q3 q4 q5
    obtain ⟨f, rfl⟩ : ∃ f, fuel = f + 1 := ⟨fuel - 1, by omega⟩
    rw [LX2_add_21, vi_p (show nI 0 ≤ 0 by decide), v_g (by omega) (by omega), n_cl (show 0 < 2147483648 by omega)]
    simp only [v_l, nI_add]
    rw [v_g (by omega) (by omega)]
    exact ⟨_, _, 0, rfl, by omega, q5, Or.inl rfl, fin 0 acts mins q2 q3 q4⟩
  | succ p ih =>
    intro fuel acts mins q1 q2 q3 q4 q5
    obtain ⟨f, rfl⟩ : ∃ f, fuel = f + 1 := ⟨fuel - 1, by omega⟩
    have hm := hM p
    rw [LX2_add_21, vi_n (show ¬ nI (p + 1) ≤ 0 from by rw [n_le0 (by omega)]; omega), n_sub (show 1 ≤ p + 1 by omega), Nat.add_sub_cancel, v_g (show p < 5 by omega) (by omega), n_cl (show p < 2147483648 by omega), n_cl (show p + 1 < 2147483648 by omega), (q3 p (by omega)).2, (q3 p (by omega)).1]
    by_cases c : M0 p ≤ t
    · rw [vi_p (show nI (M0 p) ≤ nI t from by rw [n_le (by omega) (by omega)]; exact c), v_g (show p + 1 < 5 by omega) (by omega)]
      simp only [v_l, nI_add]
      rw [v_g (show p + 1 < 5 by omega) (by omega)]
      exact ⟨_, _, p + 1, rfl, q2, q5, Or.inr c, fin (p + 1) acts mins q2 q3 q4⟩
    · rw [vi_n (show ¬ nI (M0 p) ≤ nI t from by rw [n_le (by omega) (by omega)]; exact c), v_g (show p < 5 by omega) (by omega)]
      simp only [v_l]
      rw [v_g (show p + 1 < 5 by omega) (by omega), v_g (show p < 5 by omega) (by omega), v_g (show p + 1 < 5 by omega) (by omega), show nI (p + 1) + (-1) = nI p from by rw [pm1, p_suc]]
      refine ih f _ _ (by omega) (by omega) (fun j hj => ?_) (fun j hj hj' => ?_) (fun j hj hj' => ?_)
      · rw [u_ne (by omega), u_ne (by omega)]; exact q3 j (by omega)
      · by_cases e : j = p
        · subst e; rw [u_eq rfl, u_eq rfl]; exact ⟨rfl, rfl⟩
        · rw [u_ne (by omega), u_ne (by omega)]; exact q4 j (by omega) hj'
      · by_cases e : j = p
        · subst e; omega
        · exact q5 j (by omega) hj'
/-- the row on the class's side -/
def LR (l : List Nat) (u : Nat → Nat) (s : List Nat) (acts mins : Nat → Int32) : Prop := ∀ j, j < s.length → acts j = nI (l.getD (s.getD j 0) 0) ∧ mins j = nI (u (s.getD j 0))
theorem e_add2 {a k : Nat} {l s : List Nat} {u : Nat → Nat} {acts mins : Nat → Int32} (hk : k < 5) (hu : ∀ j, u j ≤ 9) (hs : s.length = k) (hr : srt u s) (ha : l.getD k 0 = a) (h : LR l u s acts mins) : ∃ acts' mins', sX2_add acts mins (nI k) (nI a) (nI (u k)) = some (acts', mins', nI (k + 1)) ∧ LR l u (ins u k s) acts' mins' := by
  unfold sX2_add
  rw [vi_n (show ¬ nI k < 0 from nI_pos (by omega)), vi_p (show nI k < nI 5 from by rw [n_lt (by omega) (by omega)]; exact hk)]
  obtain ⟨acts', mins', p, e1, e2, e3, e4, e5, e6, e7⟩ := add_loop (a := a) (t := u k) (k := k) (A0 := fun j => l.getD (s.getD j 0) 0) (M0 := fun j => u (s.getD j 0)) hk (hu k) (fun j => hu _) k vF acts mins (by show k < 20000; omega) (Nat.le_refl k) (fun j hj => h j (by omega)) (fun j h1 h2 => absurd h1 (by omega)) (fun j h1 h2 => absurd h1 (by omega))
  refine ⟨acts', mins', e1, fun j hj => ?_⟩
  rw [ins_len] at hj
  have i := ins_at (u := u) (x := k) (l := s) (p := p) hr (by omega) (fun j h1 h2 => e3 j h1 (by omega)) e4 j
  rcases Nat.lt_trichotomy j p with c | c | c
  · rw [i.1 c]; exact e5 j c
  · rw [i.2.1 c, c, ha]; exact e6
  · rw [i.2.2 c]
    have := e7 (j - 1) (by omega) (by omega)
    rw [show j - 1 + 1 = j by omega] at this
    exact this
theorem w6 {n : Nat} {u : Nat → Nat} {l s : List Nat} {acts mins : Nat → Int32} (hn : n ≤ 5) (hs : s.length = n) (h : LR l u s acts mins) : ∀ (d fuel i x t : Nat), d = n - i → i ≤ n → d < fuel → LX2_waited_6 mins (nI n) fuel (nI x) (nI t) (nI i) = some (nI (x + wsu u t (s.drop i))) := by
  intro d
  induction d with
  | zero =>
    intro fuel i x t q1 q2 q3
    obtain ⟨f, rfl⟩ : ∃ f, fuel = f + 1 := ⟨fuel - 1, by omega⟩
    rw [LX2_waited_6, vi_p (show nI n ≤ nI i from by rw [n_le (by omega) (by omega)]; omega), List.drop_eq_nil_of_le (by omega)]
    rfl
  | succ d ih =>
    intro fuel i x t q1 q2 q3
    obtain ⟨f, rfl⟩ : ∃ f, fuel = f + 1 := ⟨fuel - 1, by omega⟩
    rw [LX2_waited_6, vi_n (show ¬ nI n ≤ nI i from by rw [n_le (by omega) (by omega)]; omega), vi_n (show ¬ nI 5 ≤ nI i from by rw [n_le (by omega) (by omega)]; omega), n_cl (show i < 2147483648 by omega), (h i (by omega)).2]
    simp only [v_l, nI_add]
    rw [v_g (by omega) (by omega), ih f (i + 1) _ _ (by omega) (by omega) (by omega), drop_g s i (by omega)]
    show some (nI (x + t + wsu u (t + u (s.getD i 0)) (s.drop (i + 1)))) = some (nI (x + (t + wsu u (t + u (s.getD i 0)) (s.drop (i + 1)))))
    rw [Nat.add_assoc]
/-! the reference's queues -/
theorem q79 {n : Nat} {l : List Nat} {order costs : Nat → Int32} {u : Nat → Nat} {K : Int32 → Option (Int32 × (Nat → Int32) × (Nat → Int32) × (Nat → Int32) × (Nat → Int32) × (Nat → Int32) × (Nat → Int32))} (hn : n ≤ 5) (ho : agr n order (oL l)) (hl : okL n l = true) (hc : ∀ j, j < n → costs j = nI (u j)) : ∀ (d fuel i s t : Nat), d = n - i → i ≤ n → d < fuel → LX9_queues_79 (nI n) order costs K fuel (nI s) (nI t) (nI i) = K (nI (s + wsu u t (l.drop i))) := by
  obtain ⟨l1, l2⟩ := okL_l hl
  intro d
  induction d with
  | zero =>
    intro fuel i s t q1 q2 q3
    obtain ⟨f, rfl⟩ : ∃ f, fuel = f + 1 := ⟨fuel - 1, by omega⟩
    rw [LX9_queues_79, vi_p (show nI n ≤ nI i from by rw [n_le (by omega) (by omega)]; omega), List.drop_eq_nil_of_le (by omega)]
    rfl
  | succ d ih =>
    intro fuel i s t q1 q2 q3
    obtain ⟨f, rfl⟩ : ∃ f, fuel = f + 1 := ⟨fuel - 1, by omega⟩
    have hi : i < n := by omega
    have o1 : order i = nI (l.getD i 0) := ho i hi
    have hj := l2 i hi
    rw [LX9_queues_79, vi_n (show ¬ nI n ≤ nI i from by rw [n_le (by omega) (by omega)]; omega), n_cl (show i < 2147483648 by omega), o1, n_cl (show l.getD i 0 < 2147483648 by omega), hc _ hj]
    simp only [v_l, nI_add]
    rw [v_g (show i < 5 by omega) (by omega), v_g (show l.getD i 0 < 25 by omega) (by omega), ih f (i + 1) _ _ (by omega) (by omega) (by omega), drop_g l i (by omega)]
    show K (nI (s + t + wsu u (t + u (l.getD i 0)) (l.drop (i + 1)))) = K (nI (s + (t + wsu u (t + u (l.getD i 0)) (l.drop (i + 1)))))
    rw [Nat.add_assoc]
set_option maxHeartbeats 2000000 in
theorem q66 {n : Nat} {costs ws tr row : Nat → Int32} {u : Nat → Nat} (hn : n ≤ 5) (hu : ∀ j, u j ≤ 9) (hc : ∀ j, j < n → costs j = nI (u j)) : ∀ (T : List (List Nat)) (l : List Nat) (fuel m : Nat) (b : Option (List Nat)) (order bo : Nat → Int32), chk n (l :: T) = true → (∀ p, p ∈ l :: T → okL n p = true) → agr n order (oL l) → m ≤ 1000000 → (∀ p, b = some p → agr n bo (oL p)) → T.length + 2 ≤ fuel → ∃ order' bo', LX9_queues_66 (nI n) ws tr row costs fuel (nI m) (nI 1) order bo = some (nI (fmn (wsu u 0) (l :: T) m b).1, ws, tr, row, order', bo', costs) ∧ ∀ p, (fmn (wsu u 0) (l :: T) m b).2 = some p → agr n bo' (oL p) := by
  intro T
  induction T with
  | nil =>
    intro l fuel m b order bo h1 h2 h3 h4 h5 h6
    obtain ⟨f, rfl⟩ : ∃ f, fuel = f + 1 + 1 := ⟨fuel - 2, by simp only [List.length_nil] at h6; omega⟩
    have hok := h2 l List.mem_cons_self
    have hb := wsu_le hn hu (okL_l hok).1
    obtain ⟨o', e1⟩ := next_end hn h1 h3
    rw [LX9_queues_66, vi_n n10, q79 hn h3 hok hc n vF 0 0 0 rfl (by omega) (by show n < 20000; omega), List.drop_zero, Nat.zero_add, show fmn (wsu u 0) [l] m b = if wsu u 0 l < m then (wsu u 0 l, some l) else (m, b) from rfl]
    by_cases q : wsu u 0 l < m
    · rw [vi_n (show ¬ nI m ≤ nI (wsu u 0 l) from by rw [n_le (by omega) (by omega)]; omega), e_copies (by omega) (by omega) (by decide) (by decide) (by omega), v_b, e1, v_b, LX9_queues_66, vi_p (show (nI 0, o').1 = 0 from nI_0), if_pos q]
      exact ⟨_, _, rfl, fun p hp => by cases hp; exact cpy_agr h3⟩
    · rw [vi_p (show nI m ≤ nI (wsu u 0 l) from by rw [n_le (by omega) (by omega)]; omega), e1, v_b, LX9_queues_66, vi_p (show (nI 0, o').1 = 0 from nI_0), if_neg q]
      exact ⟨_, _, rfl, fun p hp => h5 p hp⟩
  | cons l' T ih =>
    intro l fuel m b order bo h1 h2 h3 h4 h5 h6
    obtain ⟨f, rfl⟩ : ∃ f, fuel = f + 1 := ⟨fuel - 1, by omega⟩
    have hok := h2 l List.mem_cons_self
    have hb := wsu_le hn hu (okL_l hok).1
    obtain ⟨o', e1, e2, e3⟩ := next_more hn h1 h3
    rw [LX9_queues_66, vi_n n10, q79 hn h3 hok hc n vF 0 0 0 rfl (by omega) (by show n < 20000; omega), List.drop_zero, Nat.zero_add, show fmn (wsu u 0) (l :: l' :: T) m b = if wsu u 0 l < m then fmn (wsu u 0) (l' :: T) (wsu u 0 l) (some l) else fmn (wsu u 0) (l' :: T) m b from rfl]
    by_cases q : wsu u 0 l < m
    · rw [vi_n (show ¬ nI m ≤ nI (wsu u 0 l) from by rw [n_le (by omega) (by omega)]; omega), e_copies (by omega) (by omega) (by decide) (by decide) (by omega), v_b, e1, v_b, if_pos q]
      exact ih l' f _ (some l) _ _ e3 (fun p hp => h2 p (List.mem_cons_of_mem _ hp)) e2 (by omega) (fun p hp => by cases hp; exact cpy_agr h3) (by simp only [List.length_cons] at h6; omega)
    · rw [vi_p (show nI m ≤ nI (wsu u 0 l) from by rw [n_le (by omega) (by omega)]; omega), e1, v_b, if_neg q]
      exact ih l' f _ b _ _ e3 (fun p hp => h2 p (List.mem_cons_of_mem _ hp)) e2 h4 h5 (by simp only [List.length_cons] at h6; omega)
theorem e_q66 {n : Nat} {costs ws tr row order bo : Nat → Int32} {u : Nat → Nat} (hn : n ≤ 5) (hu : ∀ j, u j ≤ 9) (hc : ∀ j, j < n → costs j = nI (u j)) (ho : agr n order (oL (List.range n))) : ∃ order' bo', LX9_queues_66 (nI n) ws tr row costs vF (nI 1000000) (nI 1) order bo = some (nI (wsu u 0 (sel u n (List.range n))), ws, tr, row, order', bo', costs) ∧ agr n bo' (oL (sel u n (List.range n))) ∧ okL n (sel u n (List.range n)) = true := by
  obtain ⟨T, hT⟩ := perm_cons hn
  obtain ⟨p1, p2⟩ := perm_ok n hn
  have p3 := chk_ok n hn
  obtain ⟨v, hb⟩ := om_sel (u := u) hn
  obtain ⟨hv, hin⟩ := om_in hb
  have hok := List.all_eq_true.1 p1 _ hin
  have hle := wsu_le hn hu (okL_l hok).1
  rw [hT] at p1 p2 p3 hb
  obtain ⟨order', bo', e1, e2⟩ := q66 (costs := costs) (ws := ws) (tr := tr) (row := row) hn hu hc T (List.range n) vF 1000000 none order bo p3 (fun p hp => List.all_eq_true.1 p1 p hp) ho (Nat.le_refl _) (fun p hp => by cases hp) (by simp only [List.length_cons] at p2; show T.length + 2 ≤ 20000; omega)
  have hf : fmn (wsu u 0) (List.range n :: T) 1000000 none = (wsu u 0 (sel u n (List.range n)), some (sel u n (List.range n))) := by
    rw [fmn_om, hb, ← hv]
    exact if_pos (by omega)
  rw [hf] at e1 e2
  exact ⟨order', bo', e1, e2 _ rfl, hok⟩
/-- what an actor takes -/
def uT (C : Nat → Nat → Nat) (wt : Nat → Nat) (a : Nat) : Nat := if C a (wt a) = 9 then 5 else 1 + C a (wt a)
theorem uT_le {C : Nat → Nat → Nat} {wt : Nat → Nat} (h : ∀ a w, C a w ≤ 9) (a : Nat) : uT C wt a ≤ 9 := by
  have := h a (wt a)
  unfold uT
  by_cases c : C a (wt a) = 9
  · rw [if_pos c]; omega
  · rw [if_neg c]; omega
set_option maxHeartbeats 2000000 in
theorem q2_loop {n : Nat} {l : List Nat} {wt : Nat → Nat} {C : Nat → Nat → Nat} {who order bo : Nat → Int32} (hA : A ≤ 5) (hn : n ≤ 5) (hC : CO r gn W A C) (hl : ∀ j, j < n → l.getD j 0 < A) (hw : ∀ j, j < n → who j = nI (l.getD j 0)) (hg : ∀ a, a < A → gn a = nI (wt a) ∧ wt a < W) (hN : ∀ a w, C a w ≤ 9) : ∀ (d fuel i : Nat) (ws tr row costs : Nat → Int32), d = n - i → i ≤ n → d < fuel → (∀ j, j < i → costs j = nI (uT C wt (l.getD j 0))) → ∃ ws' tr' row' order' bo' costs', LX9_queues_2 (nI n) r gn who order bo fuel (nI i) ws tr row costs = some (nI (wsu (fun j => uT C wt (l.getD j 0)) 0 (sel (fun j => uT C wt (l.getD j 0)) n (List.range n))), ws', tr', row', order', bo', costs') ∧ agr n bo' (oL (sel (fun j => uT C wt (l.getD j 0)) n (List.range n))) ∧ okL n (sel (fun j => uT C wt (l.getD j 0)) n (List.range n)) = true := by
  intro d
  induction d with
  | zero =>
    intro fuel i ws tr row costs q1 q2 q3 q4
    obtain ⟨f, rfl⟩ : ∃ f, fuel = f + 1 := ⟨fuel - 1, by omega⟩
    obtain ⟨o, o1, o2⟩ := e_firstOrder hn order
    obtain ⟨o', bo', e1, e2⟩ := e_q66 (costs := costs) (ws := ws) (tr := tr) (row := row) (order := o) (bo := bo) (u := fun j => uT C wt (l.getD j 0)) hn (fun j => uT_le hN _) (fun j hj => q4 j (by omega)) o2
    rw [LX9_queues_2, vi_p (show nI n ≤ nI i from by rw [n_le (by omega) (by omega)]; omega), o1, v_b, e1]
    exact ⟨_, _, _, _, _, _, rfl, e2⟩
  | succ d ih =>
    intro fuel i ws tr row costs q1 q2 q3 q4
    obtain ⟨f, rfl⟩ : ∃ f, fuel = f + 1 := ⟨fuel - 1, by omega⟩
    have a1 : d = n - (i + 1) := by omega
    have a2 : i + 1 ≤ n := by omega
    have a3 : d < f := by omega
    have la := hl i (by omega)
    obtain ⟨g1, g2⟩ := hg _ la
    obtain ⟨v, ws', tr', row', v1, v2⟩ := hC _ la _ g2 ws tr row
    rw [LX9_queues_2, vi_n (show ¬ nI n ≤ nI i from by rw [n_le (by omega) (by omega)]; omega), v_g (show i < 5 by omega) (by omega), v_g (show i < 5 by omega) (by omega), n_cl (show i < 2147483648 by omega), hw i (by omega), z_add, v_g (show l.getD i 0 < 50 by omega) (by omega), n_cl (show l.getD i 0 < 2147483648 by omega), g1, v1, v_b]
    dsimp only
    rw [v_g (show i < 25 by omega) (by omega)]
    have key : ∀ x : Int32, x = nI (uT C wt (l.getD i 0)) → ∃ ws'' tr'' row'' order' bo' costs', LX9_queues_2 (nI n) r gn who order bo f (nI (i + 1)) ws' tr' row' (upd costs i x) = some (nI (wsu (fun j => uT C wt (l.getD j 0)) 0 (sel (fun j => uT C wt (l.getD j 0)) n (List.range n))), ws'', tr'', row'', order', bo', costs') ∧ agr n bo' (oL (sel (fun j => uT C wt (l.getD j 0)) n (List.range n))) ∧ okL n (sel (fun j => uT C wt (l.getD j 0)) n (List.range n)) = true := by
      intro x hx
      refine ih f (i + 1) ws' tr' row' (upd costs i x) a1 a2 a3 (fun j hj => ?_)
      by_cases e : j = i
      · subst e; rw [u_eq rfl]; exact hx
      · rw [u_ne e]; exact q4 j (by omega)
    rcases v2 with ⟨e, e'⟩ | ⟨m, m1, e, e'⟩
    · rw [vi_p e]
      simp only [v_l, nI_add]
      exact key _ (by unfold uT; rw [if_pos e'])
    · rw [vi_n (show ¬ v = -4 from by rw [e]; exact m4 (by omega))]
      simp only [v_l]
      rw [v_g (show i < 25 by omega) (by omega), nI_add i 1]
      exact key (nI 1 + v) (by unfold uT; rw [if_neg (by omega), e, e', nI_add])
end QUEUE

/-! values: rows of signs, one after the other -/
/-- how many signs below s are free; the first free one from s on -/
def cnt (fb : Int32) : Nat → Nat
  | 0 => 0
  | s + 1 => cnt fb s + (if hasB fb (nI s) then 0 else 1)
def nx (fb : Int32) : Nat → Nat → Nat
  | 0, s => s
  | d + 1, s => if hasB fb (nI s) then nx fb d (s + 1) else s
theorem cnt_t {fb : Int32} {s : Nat} (h : hasB fb (nI s)) : cnt fb (s + 1) = cnt fb s := by
  show cnt fb s + (if hasB fb (nI s) then 0 else 1) = cnt fb s
  rw [if_pos h]; rfl
theorem cnt_f {fb : Int32} {s : Nat} (h : ¬ hasB fb (nI s)) : cnt fb (s + 1) = cnt fb s + 1 := by
  show cnt fb s + (if hasB fb (nI s) then 0 else 1) = cnt fb s + 1
  rw [if_neg h]
theorem cnt_le (fb : Int32) : ∀ s, cnt fb s ≤ s := by
  intro s
  induction s with
  | zero => exact Nat.le_refl 0
  | succ s ih =>
    by_cases h : hasB fb (nI s)
    · rw [cnt_t h]; omega
    · rw [cnt_f h]; omega
theorem cnt_mono (fb : Int32) (s : Nat) : ∀ d, cnt fb s ≤ cnt fb (s + d) := by
  intro d
  induction d with
  | zero => exact Nat.le_refl _
  | succ d ih =>
    rw [show s + (d + 1) = s + d + 1 by omega]
    by_cases h : hasB fb (nI (s + d))
    · rw [cnt_t h]; exact ih
    · rw [cnt_f h]; omega
theorem cnt_lt {fb : Int32} {s S : Nat} (h : s < S) (hf : ¬ hasB fb (nI s)) : cnt fb s < cnt fb S := by
  have := cnt_mono fb (s + 1) (S - (s + 1))
  rw [show s + 1 + (S - (s + 1)) = S by omega, cnt_f hf] at this
  omega
theorem cnt_inj {fb : Int32} {s t : Nat} (hs : ¬ hasB fb (nI s)) (ht : ¬ hasB fb (nI t)) (h : cnt fb s = cnt fb t) : s = t := by
  by_cases a : s < t
  · have := cnt_lt a hs; omega
  · by_cases b : t < s
    · have := cnt_lt b ht; omega
    · omega
theorem nx_spec (fb : Int32) (S : Nat) : ∀ d s, s + d = S → s ≤ nx fb d s ∧ nx fb d s ≤ S ∧ (nx fb d s < S → ¬ hasB fb (nI (nx fb d s))) ∧ cnt fb (nx fb d s) = cnt fb s := by
  intro d
  induction d with
  | zero => intro s h; exact ⟨Nat.le_refl _, by show s ≤ S; omega, fun q => absurd (show s < S from q) (by omega), rfl⟩
  | succ d ih =>
    intro s h
    by_cases c : hasB fb (nI s)
    · rw [show nx fb (d + 1) s = nx fb d (s + 1) from if_pos c]
      obtain ⟨h1, h2, h3, h4⟩ := ih (s + 1) (by omega)
      exact ⟨by omega, h2, h3, by rw [h4, cnt_t c]⟩
    · rw [show nx fb (d + 1) s = s from if_neg c]
      exact ⟨Nat.le_refl _, by omega, fun _ => c, rfl⟩
/-- the next sign behind a free one, where there is one -/
theorem nx_next {fb : Int32} {S s : Nat} (hs : s < S) (hf : ¬ hasB fb (nI s)) : (cnt fb s + 1 < cnt fb S ↔ nx fb (S - (s + 1)) (s + 1) < S) ∧ s < nx fb (S - (s + 1)) (s + 1) ∧ cnt fb (nx fb (S - (s + 1)) (s + 1)) = cnt fb s + 1 := by
  obtain ⟨h1, h2, h3, h4⟩ := nx_spec fb S (S - (s + 1)) (s + 1) (by omega)
  rw [cnt_f hf] at h4
  generalize nx fb (S - (s + 1)) (s + 1) = t at h1 h2 h3 h4 ⊢
  refine ⟨⟨fun q => ?_, fun q => ?_⟩, by omega, h4⟩
  · by_cases c : t < S
    · exact c
    · rw [show t = S by omega] at h4; omega
  · have := cnt_lt q (h3 q)
    omega
/-- the place that can rise, and to what -/
def nr (fb : Int32) (S : Nat) (ρ : Nat → Nat) : Nat → Option (Nat × Nat)
  | 0 => none
  | k + 1 => if nx fb (S - (ρ k + 1)) (ρ k + 1) < S then some (k, nx fb (S - (ρ k + 1)) (ρ k + 1)) else nr fb S ρ k
def nxt (fb : Int32) (S m : Nat) (ρ : Nat → Nat) : Option (Nat → Nat) := match nr fb S ρ m with
  | none => none
  | some (k, t) => some (fun j => if k ≤ j then t else ρ j)
def frst (fb : Int32) (S m : Nat) : Option (Nat → Nat) := if m = 0 ∨ nx fb S 0 < S then some (fun _ => nx fb S 0) else none
def okR (fb : Int32) (S m : Nat) (ρ : Nat → Nat) : Prop := ∀ j, j < m → ρ j < S ∧ ¬ hasB fb (nI (ρ j))
theorem nr_spec {fb : Int32} {S m : Nat} {ρ : Nat → Nat} (ho : okR fb S m ρ) : ∀ k1, k1 ≤ m → ∀ k t, nr fb S ρ k1 = some (k, t) → k < k1 ∧ ρ k < t ∧ t < S ∧ ¬ hasB fb (nI t) ∧ cnt fb t = cnt fb (ρ k) + 1 := by
  intro k1
  induction k1 with
  | zero => intro h k t e; cases e
  | succ k1 ih =>
    intro h k t e
    have hk := ho k1 (by omega)
    obtain ⟨n1, n2, n3⟩ := nx_next hk.1 hk.2
    obtain ⟨-, -, n4, -⟩ := nx_spec fb S (S - (ρ k1 + 1)) (ρ k1 + 1) (by omega)
    by_cases c : nx fb (S - (ρ k1 + 1)) (ρ k1 + 1) < S
    · rw [show nr fb S ρ (k1 + 1) = some (k1, nx fb (S - (ρ k1 + 1)) (ρ k1 + 1)) from if_pos c] at e
      cases e
      exact ⟨by omega, n2, c, n4 c, n3⟩
    · rw [show nr fb S ρ (k1 + 1) = nr fb S ρ k1 from if_neg c] at e
      obtain ⟨e1, e2⟩ := ih (by omega) k t e
      exact ⟨by omega, e2⟩
theorem nxt_ok {fb : Int32} {S m : Nat} {ρ ρ' : Nat → Nat} (ho : okR fb S m ρ) (e : nxt fb S m ρ = some ρ') : okR fb S m ρ' := by
  unfold nxt at e
  cases h : nr fb S ρ m with
  | none => rw [h] at e; cases e
  | some kt =>
    obtain ⟨k, t⟩ := kt
    rw [h] at e
    cases e
    obtain ⟨h1, h2, h3, h4, h5⟩ := nr_spec ho m (Nat.le_refl m) k t h
    intro j hj
    show (if k ≤ j then t else ρ j) < S ∧ ¬ hasB fb (nI (if k ≤ j then t else ρ j))
    by_cases c : k ≤ j
    · rw [if_pos c]; exact ⟨h3, h4⟩
    · rw [if_neg c]; exact ho j hj
theorem frst_ok {fb : Int32} {S m : Nat} {ρ : Nat → Nat} (e : frst fb S m = some ρ) : okR fb S m ρ := by
  unfold frst at e
  by_cases c : m = 0 ∨ nx fb S 0 < S
  · rw [if_pos c] at e
    cases e
    intro j hj
    have c2 : nx fb S 0 < S := by
      rcases c with c | c
      · omega
      · exact c
    exact ⟨c2, (nx_spec fb S S 0 (by omega)).2.2.1 c2⟩
  · rw [if_neg c] at e
    cases e
def mu (S m : Nat) (ρ : Nat → Nat) : Nat := (if 0 < m then 256 * (S - ρ 0) else 0) + (if 1 < m then 16 * (S - ρ 1) else 0) + (if 2 < m then S - ρ 2 else 0)
theorem mu_le {S m : Nat} (ρ : Nat → Nat) (hS : S ≤ 15) : mu S m ρ < 5000 := by
  unfold mu
  split <;> split <;> split <;> omega
theorem mu_nxt {fb : Int32} {S m : Nat} {ρ ρ' : Nat → Nat} (hS : S ≤ 15) (hm : m ≤ 3) (ho : okR fb S m ρ) (e : nxt fb S m ρ = some ρ') : mu S m ρ' < mu S m ρ := by
  unfold nxt at e
  cases h : nr fb S ρ m with
  | none => rw [h] at e; cases e
  | some kt =>
    obtain ⟨k, t⟩ := kt
    rw [h] at e
    cases e
    obtain ⟨h1, h2, h3, h4, h5⟩ := nr_spec ho m (Nat.le_refl m) k t h
    have hb : ∀ j, j < m → ρ j < S := fun j hj => (ho j hj).1
    have hk := hb k h1
    unfold mu
    dsimp only
    rcases (show m = 1 ∨ m = 2 ∨ m = 3 by omega) with rfl | rfl | rfl
    · obtain rfl : k = 0 := by omega
      simp
      omega
    · have b0 := hb 0 (by omega)
      have b1 := hb 1 (by omega)
      rcases (show k = 0 ∨ k = 1 by omega) with rfl | rfl
      · simp
        omega
      · simp
        omega
    · have b0 := hb 0 (by omega)
      have b1 := hb 1 (by omega)
      have b2 := hb 2 (by omega)
      rcases (show k = 0 ∨ k = 1 ∨ k = 2 by omega) with rfl | rfl | rfl
      · simp
        omega
      · simp
        omega
      · simp
        omega
/-- the first row by which a word is hit -/
def scan (fb : Int32) (S m : Nat) (hit : (Nat → Nat) → Option Nat) (w : Nat) : Nat → Option (Nat → Nat) → Option (Nat → Nat)
  | 0, _ => none
  | _ + 1, none => none
  | n + 1, some ρ => if hit ρ = some w then some ρ else scan fb S m hit w n (nxt fb S m ρ)
theorem scan_no {fb : Int32} {S m w : Nat} {hit : (Nat → Nat) → Option Nat} (h : ∀ ρ, ¬ hit ρ = some w) : ∀ n o, scan fb S m hit w n o = none := by
  intro n
  induction n with
  | zero => intro o; rfl
  | succ n ih =>
    intro o
    cases o with
    | none => rfl
    | some ρ => rw [show scan fb S m hit w (n + 1) (some ρ) = scan fb S m hit w n (nxt fb S m ρ) from if_neg (h ρ)]; exact ih _
theorem scan_none {fb : Int32} {S m w n : Nat} {hit : (Nat → Nat) → Option Nat} : scan fb S m hit w n none = none := by
  cases n <;> rfl
def few (fb : Int32) (S : Nat) (hit : Nat → (Nat → Nat) → Option Nat) (w : Nat) : Nat → Nat → Option (Nat × (Nat → Nat))
  | 0, _ => none
  | d + 1, m => match scan fb S m (hit m) w 5000 (frst fb S m) with
    | some ρ => some (m, ρ)
    | none => few fb S hit w d (m + 1)
/-! the reference's rows -/
section ROWS9
variable {W L A : Nat} {fb : Int32} {r : Nat → Int32}
theorem r17 {K : Int32 → Option (Int32 × (Nat → Int32))} (hL : L ≤ 6) (h1 : r 1 = nI L) (h3 : r 3 = fb) : ∀ (d fuel s : Nat), s + d = 9 + L → d < fuel → LX9_nextRow_17 r K fuel (nI s) = K (nI (nx fb d s)) := by
  intro d
  induction d with
  | zero =>
    intro fuel s q1 q2
    obtain ⟨f, rfl⟩ : ∃ f, fuel = f + 1 := ⟨fuel - 1, by omega⟩
    rw [LX9_nextRow_17, sX9_signs, n_cl (show 1 < 2147483648 by decide), h1, nI_add, v_b, vi_p (show nI (9 + L) ≤ nI s from by rw [n_le (by omega) (by omega)]; omega)]
    rfl
  | succ d ih =>
    intro fuel s q1 q2
    obtain ⟨f, rfl⟩ : ∃ f, fuel = f + 1 := ⟨fuel - 1, by omega⟩
    rw [LX9_nextRow_17, sX9_signs, n_cl (show 1 < 2147483648 by decide), n_cl (show 3 < 2147483648 by decide), h1, h3, nI_add, v_b, vi_n (show ¬ nI (9 + L) ≤ nI s from by rw [n_le (by omega) (by omega)]; omega), e_has, v_b]
    by_cases c : hasB fb (nI s)
    · rw [if_pos c, vi_n n10, v_l, nI_add, ih f (s + 1) (by omega) (by omega), show nx fb (d + 1) s = nx fb d (s + 1) from if_pos c]
    · rw [if_neg c, vi_p nI_0, show nx fb (d + 1) s = s from if_neg c]
theorem r55 {m : Nat} {t : Int32} (hm : m ≤ 3) : ∀ (d fuel k : Nat) (row : Nat → Int32), d = m - k → k ≤ m → d < fuel → ∃ row', LX9_nextRow_55 (nI m) t fuel (nI k) row = some (nI 1, row') ∧ (∀ j, j < k → row' j = row j) ∧ ∀ j, k ≤ j → j < m → row' j = t := by
  intro d
  induction d with
  | zero =>
    intro fuel k row q1 q2 q3
    obtain ⟨f, rfl⟩ : ∃ f, fuel = f + 1 := ⟨fuel - 1, by omega⟩
    rw [LX9_nextRow_55, vi_p (show nI m ≤ nI k from by rw [n_le (by omega) (by omega)]; omega)]
    exact ⟨row, rfl, fun _ _ => rfl, fun j h1 h2 => absurd h2 (by omega)⟩
  | succ d ih =>
    intro fuel k row q1 q2 q3
    obtain ⟨f, rfl⟩ : ∃ f, fuel = f + 1 := ⟨fuel - 1, by omega⟩
    rw [LX9_nextRow_55, vi_n (show ¬ nI m ≤ nI k from by rw [n_le (by omega) (by omega)]; omega), v_g (by omega) (by omega), v_l, v_l, n_cl (by omega), nI_add]
    obtain ⟨row', e1, e2, e3⟩ := ih f (k + 1) (upd row k t) (by omega) (by omega) (by omega)
    refine ⟨row', e1, fun j hj => ?_, fun j h1 h2 => ?_⟩
    · rw [e2 j (by omega), u_ne (by omega)]
    · by_cases c : j = k
      · rw [e2 j (by omega), u_eq c]
      · exact e3 j (by omega) h2
theorem pm1 (k : Nat) : nI k + (-1) = nI k - nI 1 := by rw [Int32.sub_eq_add_neg]; rfl
theorem p_neg : nI 0 - nI 1 < 0 := by decide
theorem p_suc (k : Nat) : nI (k + 1) - nI 1 = nI k := by rw [n_sub (by omega), Nat.add_sub_cancel]
theorem r4_loop {m : Nat} {ρ : Nat → Nat} {row : Nat → Int32} (hL : L ≤ 6) (h1 : r 1 = nI L) (h3 : r 3 = fb) (hm : m ≤ 3) (ho : okR fb (9 + L) m ρ) (hr : ∀ j, j < m → row j = nI (ρ j)) : ∀ (k1 fuel : Nat), k1 ≤ m → k1 < fuel → ∃ b row', LX9_nextRow_4 (nI m) r row fuel (nI k1 - nI 1) = some (b, row') ∧ ((nr fb (9 + L) ρ k1 = none ∧ b = nI 0) ∨ ∃ k t, nr fb (9 + L) ρ k1 = some (k, t) ∧ b = nI 1 ∧ ∀ j, j < m → row' j = nI (if k ≤ j then t else ρ j)) := by
  intro k1
  induction k1 with
  | zero =>
    intro fuel q1 q2
    obtain ⟨f, rfl⟩ : ∃ f, fuel = f + 1 := ⟨fuel - 1, by omega⟩
    rw [LX9_nextRow_4, vi_p p_neg]
    exact ⟨_, _, rfl, Or.inl ⟨rfl, rfl⟩⟩
  | succ k ih =>
    intro fuel q1 q2
    obtain ⟨f, rfl⟩ : ∃ f, fuel = f + 1 := ⟨fuel - 1, by omega⟩
    have hk := ho k (by omega)
    rw [LX9_nextRow_4, p_suc, vi_n (show ¬ nI k < 0 from nI_pos (by omega)), v_g (by omega) (by omega), v_l, n_cl (by omega), hr k (by omega), nI_add, r17 hL h1 h3 (9 + L - (ρ k + 1)) vF (ρ k + 1) (by omega) (by show 9 + L - (ρ k + 1) < 20000; omega), sX9_signs, n_cl (show 1 < 2147483648 by decide), h1, nI_add, v_b]
    obtain ⟨-, n2, n3, -⟩ := nx_spec fb (9 + L) (9 + L - (ρ k + 1)) (ρ k + 1) (by omega)
    by_cases c : nx fb (9 + L - (ρ k + 1)) (ρ k + 1) < 9 + L
    · rw [vi_n (show ¬ nI (9 + L) ≤ nI (nx fb (9 + L - (ρ k + 1)) (ρ k + 1)) from by rw [n_le (by omega) (by omega)]; omega)]
      obtain ⟨row', e1, e2, e3⟩ := r55 (t := nI (nx fb (9 + L - (ρ k + 1)) (ρ k + 1))) hm (m - k) vF k row rfl (by omega) (by show m - k < 20000; omega)
      refine ⟨_, row', e1, Or.inr ⟨k, _, if_pos c, rfl, fun j hj => ?_⟩⟩
      by_cases d : k ≤ j
      · rw [if_pos d]; exact e3 j d hj
      · rw [if_neg d, e2 j (by omega)]; exact hr j hj
    · rw [vi_p (show nI (9 + L) ≤ nI (nx fb (9 + L - (ρ k + 1)) (ρ k + 1)) from by rw [n_le (by omega) (by omega)]; omega), v_l, pm1, show nr fb (9 + L) ρ (k + 1) = nr fb (9 + L) ρ k from if_neg c]
      exact ih f (by omega) (by omega)
theorem e_nextRow {m : Nat} {ρ : Nat → Nat} {row : Nat → Int32} (hL : L ≤ 6) (h1 : r 1 = nI L) (h3 : r 3 = fb) (hm : m ≤ 3) (ho : okR fb (9 + L) m ρ) (hr : ∀ j, j < m → row j = nI (ρ j)) : ∃ b row', sX9_nextRow r row (nI m) = some (b, row') ∧ ((nxt fb (9 + L) m ρ = none ∧ b = nI 0) ∨ ∃ ρ', nxt fb (9 + L) m ρ = some ρ' ∧ b = nI 1 ∧ ∀ j, j < m → row' j = nI (ρ' j)) := by
  unfold sX9_nextRow
  rw [v_l]
  obtain ⟨b, row', e1, e2⟩ := r4_loop hL h1 h3 hm ho hr m vF (Nat.le_refl m) (by show m < 20000; omega)
  refine ⟨b, row', e1, ?_⟩
  unfold nxt
  rcases e2 with ⟨e2, e3⟩ | ⟨k, t, e2, e3, e4⟩
  · rw [e2]; exact Or.inl ⟨rfl, e3⟩
  · rw [e2]; exact Or.inr ⟨_, rfl, e3, e4⟩
theorem r31 {m t : Nat} (hL : L ≤ 6) (h1 : r 1 = nI L) (hm : m ≤ 3) (ht : t ≤ 9 + L) : ∀ (d fuel k : Nat) (row : Nat → Int32), d = m - k → k ≤ m → d < fuel → (∀ j, j < k → row j = nI t) → ∃ row', LX9_firstRow_31 (nI m) (nI t) r fuel (nI k) row = some (if m = 0 ∨ t < 9 + L then nI 1 else nI 0, row') ∧ ∀ j, j < m → row' j = nI t := by
  intro d
  induction d with
  | zero =>
    intro fuel k row q1 q2 q3 q4
    obtain ⟨f, rfl⟩ : ∃ f, fuel = f + 1 := ⟨fuel - 1, by omega⟩
    rw [LX9_firstRow_31, vi_p (show nI m ≤ nI k from by rw [n_le (by omega) (by omega)]; omega)]
    refine ⟨row, ?_, fun j hj => q4 j (by omega)⟩
    by_cases c : m = 0
    · rw [vi_p (show nI m = 0 from by rw [c]; exact nI_0), if_pos (Or.inl c)]
    · rw [vi_n (show ¬ nI m = 0 from by rw [n_eq0 (by omega)]; exact c), sX9_signs, n_cl (show 1 < 2147483648 by decide), h1, nI_add, v_b]
      by_cases e : t < 9 + L
      · rw [vi_n (show ¬ nI (9 + L) ≤ nI t from by rw [n_le (by omega) (by omega)]; omega), if_pos (Or.inr e)]
      · rw [vi_p (show nI (9 + L) ≤ nI t from by rw [n_le (by omega) (by omega)]; omega), if_neg (by omega)]
  | succ d ih =>
    intro fuel k row q1 q2 q3 q4
    obtain ⟨f, rfl⟩ : ∃ f, fuel = f + 1 := ⟨fuel - 1, by omega⟩
    rw [LX9_firstRow_31, vi_n (show ¬ nI m ≤ nI k from by rw [n_le (by omega) (by omega)]; omega), v_g (by omega) (by omega), v_l, v_l, n_cl (by omega), nI_add]
    refine ih f (k + 1) _ (by omega) (by omega) (by omega) (fun j hj => ?_)
    by_cases c : j = k
    · rw [u_eq c]
    · rw [u_ne c]; exact q4 j (by omega)
theorem r2_loop {m : Nat} {row : Nat → Int32} (hL : L ≤ 6) (h1 : r 1 = nI L) (h3 : r 3 = fb) : ∀ (d fuel s : Nat), s + d = 9 + L → d < fuel → LX9_firstRow_2 (nI m) r row fuel (nI s) = LX9_firstRow_31 (nI m) (nI (nx fb d s)) r vF (nI 0) row := by
  intro d
  induction d with
  | zero =>
    intro fuel s q1 q2
    obtain ⟨f, rfl⟩ : ∃ f, fuel = f + 1 := ⟨fuel - 1, by omega⟩
    rw [LX9_firstRow_2, sX9_signs, n_cl (show 1 < 2147483648 by decide), h1, nI_add, v_b, vi_p (show nI (9 + L) ≤ nI s from by rw [n_le (by omega) (by omega)]; omega)]
    rfl
  | succ d ih =>
    intro fuel s q1 q2
    obtain ⟨f, rfl⟩ : ∃ f, fuel = f + 1 := ⟨fuel - 1, by omega⟩
    rw [LX9_firstRow_2, sX9_signs, n_cl (show 1 < 2147483648 by decide), n_cl (show 3 < 2147483648 by decide), h1, h3, nI_add, v_b, vi_n (show ¬ nI (9 + L) ≤ nI s from by rw [n_le (by omega) (by omega)]; omega), e_has, v_b]
    by_cases c : hasB fb (nI s)
    · rw [if_pos c, vi_n n10, v_l, nI_add, ih f (s + 1) (by omega) (by omega), show nx fb (d + 1) s = nx fb d (s + 1) from if_pos c]
    · rw [if_neg c, vi_p nI_0, show nx fb (d + 1) s = s from if_neg c]
theorem e_firstRow {m : Nat} (row : Nat → Int32) (hL : L ≤ 6) (h1 : r 1 = nI L) (h3 : r 3 = fb) (hm : m ≤ 3) : ∃ b row', sX9_firstRow r row (nI m) = some (b, row') ∧ ((frst fb (9 + L) m = none ∧ b = nI 0) ∨ ∃ ρ, frst fb (9 + L) m = some ρ ∧ b = nI 1 ∧ ∀ j, j < m → row' j = nI (ρ j)) := by
  unfold sX9_firstRow
  rw [r2_loop hL h1 h3 (9 + L) vF 0 (by omega) (by show 9 + L < 20000; omega)]
  have hn := (nx_spec fb (9 + L) (9 + L) 0 (by omega)).2.1
  obtain ⟨row', e1, e2⟩ := r31 (r := r) hL h1 hm hn m vF 0 row rfl (by omega) (by show m < 20000; omega) (fun j hj => absurd hj (by omega))
  refine ⟨_, row', e1, ?_⟩
  unfold frst
  by_cases c : m = 0 ∨ nx fb (9 + L) 0 < 9 + L
  · rw [if_pos c, if_pos c]; exact Or.inr ⟨_, rfl, rfl, e2⟩
  · rw [if_neg c, if_neg c]; exact Or.inl ⟨rfl, rfl⟩
/-- what a row makes of the weights -/
def rowW (r : Nat → Int32) (kd : Int32) (p q : Nat) (ws : Nat → Int32) (m : Nat) (ρ : Nat → Nat) (v : Nat) : Int32 := (sgL ρ m 0).foldl (fun u s => u * fac r kd v s p q) (ws v)
def hitF (r : Nat → Int32) (kd : Int32) (p q W : Nat) (ws : Nat → Int32) (m : Nat) (ρ : Nat → Nat) : Option Nat := gb (rowW r kd p q ws m ρ) W 0 none
theorem hit_lt {kd : Int32} {p q m : Nat} {ws : Nat → Int32} {ρ : Nat → Nat} {v : Nat} (h : hitF r kd p q W ws m ρ = some v) : v < W ∧ 0 < (rowW r kd p q ws m ρ v).toInt := by
  have := gb_lt _ W 0 none (fun u e => by cases e) v h
  exact ⟨by omega, this.2⟩
theorem hit_pos {kd : Int32} {p q m : Nat} {ws : Nat → Int32} {ρ : Nat → Nat} {v : Nat} (h0 : ws v = nI 0) : ¬ hitF r kd p q W ws m ρ = some v := by
  intro h
  have := (hit_lt h).2
  unfold rowW at this
  rw [h0, fold_0, i_nI _ (by decide)] at this
  omega
theorem rowW_congr {kd : Int32} {p q m : Nat} {ws : Nat → Int32} {ρ ρ' : Nat → Nat} (h : ∀ j, j < m → ρ j = ρ' j) (v : Nat) : rowW r kd p q ws m ρ v = rowW r kd p q ws m ρ' v := by
  unfold rowW
  rw [sgL_congr (sg' := ρ') m 0 (fun i _ hi => h i (by omega))]
set_option maxHeartbeats 2000000 in
theorem f38 {p q m a kd w : Nat} {ws : Nat → Int32} {K : (Nat → Int32) → (Nat → Int32) → Option (Int32 × (Nat → Int32) × (Nat → Int32) × (Nat → Int32))} (hW : W ≤ 8) (hL : L ≤ 6) (h0 : r 0 = nI W) (h1 : r 1 = nI L) (h3 : r 3 = fb) (h4 : r 4 = nI p) (h5 : r 5 = nI q) (ha : a < 5) (hkd : r (37 + a) = nI kd) (hm : m ≤ 3) (hw : w < W) : ∀ (n fuel : Nat) (o : Option (Nat → Nat)) (tr row : Nat → Int32), n + 1 < fuel → (∀ ρ, o = some ρ → okR fb (9 + L) m ρ ∧ mu (9 + L) m ρ < n ∧ ∀ j, j < m → row j = nI (ρ j)) → (∃ ρ tr' row', scan fb (9 + L) m (hitF r (nI kd) p q W ws m) w n o = some ρ ∧ LX9_fewestFor_38 (nI a) (nI w) (nI m) r ws K fuel (if o = none then nI 0 else nI 1) tr row = some (nI m, ws, tr', row') ∧ ∀ j, j < m → row' j = nI (ρ j)) ∨ (scan fb (9 + L) m (hitF r (nI kd) p q W ws m) w n o = none ∧ ∃ tr' row', LX9_fewestFor_38 (nI a) (nI w) (nI m) r ws K fuel (if o = none then nI 0 else nI 1) tr row = K tr' row') := by
  intro n
  induction n with
  | zero =>
    intro fuel o tr row q1 q2
    obtain ⟨f, rfl⟩ : ∃ f, fuel = f + 1 := ⟨fuel - 1, by omega⟩
    cases o with
    | none =>
      rw [if_pos rfl, LX9_fewestFor_38, vi_p nI_0]
      exact Or.inr ⟨rfl, _, _, rfl⟩
    | some ρ => exact absurd (q2 ρ rfl).2.1 (by omega)
  | succ n ih =>
    intro fuel o tr row q1 q2
    obtain ⟨f, rfl⟩ : ∃ f, fuel = f + 1 := ⟨fuel - 1, by omega⟩
    cases o with
    | none =>
      rw [if_pos rfl, LX9_fewestFor_38, vi_p nI_0]
      exact Or.inr ⟨rfl, _, _, rfl⟩
    | some ρ =>
      obtain ⟨ho, hmu, hrow⟩ := q2 ρ rfl
      rw [if_neg (by intro e; cases e), LX9_fewestFor_38, vi_n n10, nI_add, v_g (by omega) (by omega), n_cl (by omega), hkd]
      obtain ⟨tr', t1, t2⟩ := e_would (r := r) (row := row) (ws := ws) (kd' := nI kd) (t := nI w) (m := m) (p := p) (q := q) tr ρ hW h0 hm h4 h5 (fun k hk => ⟨hrow k hk, by have := (ho k hk).1; omega⟩)
      have hh : (enc (gb (fun v => (sgL ρ m 0).foldl (fun u s => u * fac r (nI kd) v s p q) (ws v)) W 0 none) = nI w) = (hitF r (nI kd) p q W ws m ρ = some w) := by
        show (enc (hitF r (nI kd) p q W ws m ρ) = nI w) = _
        cases hc : hitF r (nI kd) p q W ws m ρ with
        | none => exact propext ⟨fun e => absurd e.symm (m4 (by omega)), fun e => by cases e⟩
        | some u =>
          have := (hit_lt hc).1
          show (nI u = nI w) = _
          rw [n_eq (by omega) (by omega)]
          exact propext ⟨fun e => by rw [e], fun e => by cases e; rfl⟩
      rw [t1, v_b]
      by_cases c : hitF r (nI kd) p q W ws m ρ = some w
      · rw [if_pos (hh.mpr c), vi_n n10]
        exact Or.inl ⟨ρ, _, _, if_pos c, rfl, hrow⟩
      · rw [if_neg (fun e => c (hh.mp e)), vi_p nI_0]
        obtain ⟨b, row', e1, e2⟩ := e_nextRow hL h1 h3 hm ho hrow
        rw [e1, v_b, show scan fb (9 + L) m (hitF r (nI kd) p q W ws m) w (n + 1) (some ρ) = scan fb (9 + L) m (hitF r (nI kd) p q W ws m) w n (nxt fb (9 + L) m ρ) from if_neg c]
        have hb : b = if nxt fb (9 + L) m ρ = none then nI 0 else nI 1 := by
          rcases e2 with ⟨e2, e3⟩ | ⟨ρ', e2, e3, e4⟩
          · rw [e2, if_pos rfl, e3]
          · rw [e2, if_neg (by intro e; cases e), e3]
        dsimp only
        rw [hb]
        refine ih f (nxt fb (9 + L) m ρ) tr' row' (by omega) (fun ρ2 hρ => ⟨nxt_ok ho hρ, ?_, ?_⟩)
        · have := mu_nxt (by omega) hm ho hρ
          omega
        · rcases e2 with ⟨e2, e3⟩ | ⟨ρ', e2, e3, e4⟩
          · rw [e2] at hρ; cases hρ
          · rw [e2] at hρ; cases hρ; exact e4
theorem f11 {p q a kd w sh : Nat} {ws now : Nat → Int32} (hW : W ≤ 8) (hL : L ≤ 6) (h0 : r 0 = nI W) (h1 : r 1 = nI L) (h3 : r 3 = fb) (h4 : r 4 = nI p) (h5 : r 5 = nI q) (ha : a < 5) (hkd : r (37 + a) = nI kd) (hsh : sh ≤ 5) (d2 : now (10 + a) = nI sh) (hw : w < W) : ∀ (d fuel m : Nat) (tr row : Nat → Int32), d = min 4 (6 - sh) - m → m ≤ min 4 (6 - sh) → d < fuel → ∃ v tr' row', LX9_fewestFor_11 (nI a) (nI w) r now ws fuel (nI m) tr row = some (v, ws, tr', row') ∧ ((few fb (9 + L) (hitF r (nI kd) p q W ws) w d m = none ∧ v = -4) ∨ ∃ m' ρ, m' ≤ 3 ∧ few fb (9 + L) (hitF r (nI kd) p q W ws) w d m = some (m', ρ) ∧ v = nI m' ∧ ∀ j, j < m' → row' j = nI (ρ j)) := by
  intro d
  induction d with
  | zero =>
    intro fuel m tr row q1 q2 q3
    obtain ⟨f, rfl⟩ : ∃ f, fuel = f + 1 := ⟨fuel - 1, by omega⟩
    rw [LX9_fewestFor_11]
    by_cases c : 4 ≤ m
    · rw [vi_p (show nI 4 ≤ nI m from by rw [n_le (by omega) (by omega)]; omega)]
      exact ⟨_, _, _, rfl, Or.inl ⟨rfl, rfl⟩⟩
    · rw [vi_n (show ¬ nI 4 ≤ nI m from by rw [n_le (by omega) (by omega)]; omega), nI_add, v_g (by omega) (by omega), n_cl (by omega), d2, nI_add, vi_p (show nI 5 < nI (m + sh) from by rw [n_lt (by omega) (by omega)]; omega)]
      exact ⟨_, _, _, rfl, Or.inl ⟨rfl, rfl⟩⟩
  | succ d ih =>
    intro fuel m tr row q1 q2 q3
    obtain ⟨f, rfl⟩ : ∃ f, fuel = f + 1 := ⟨fuel - 1, by omega⟩
    rw [LX9_fewestFor_11, vi_n (show ¬ nI 4 ≤ nI m from by rw [n_le (by omega) (by omega)]; omega), show nI 10 + nI a = nI (10 + a) from nI_add 10 a, v_g (by omega) (by omega), n_cl (by omega), d2, show nI m + nI sh = nI (m + sh) from nI_add m sh, vi_n (show ¬ nI 5 < nI (m + sh) from by rw [n_lt (by omega) (by omega)]; omega)]
    obtain ⟨b, row1, e1, e2⟩ := e_firstRow (fb := fb) (r := r) row hL h1 h3 (show m ≤ 3 by omega)
    rw [e1, v_b]
    have hb : b = if frst fb (9 + L) m = none then nI 0 else nI 1 := by
      rcases e2 with ⟨e2, e3⟩ | ⟨ρ', e2, e3, e4⟩
      · rw [e2, if_pos rfl, e3]
      · rw [e2, if_neg (by intro e; cases e), e3]
    dsimp only
    rw [hb]
    rcases f38 (K := fun v10 v11 => vlet (nI m + nI 1) fun y12 => LX9_fewestFor_11 (nI a) (nI w) r now ws f y12 v10 v11) hW hL h0 h1 h3 h4 h5 ha hkd (show m ≤ 3 by omega) hw (p := p) (q := q) (ws := ws) 5000 vF (frst fb (9 + L) m) tr row1 (by decide) (fun ρ hρ => ⟨frst_ok hρ, mu_le ρ (by omega), by
      rcases e2 with ⟨e2, e3⟩ | ⟨ρ', e2, e3, e4⟩
      · rw [e2] at hρ; cases hρ
      · rw [e2] at hρ; cases hρ; exact e4⟩) with ⟨ρ, tr', row', s1, s2, s3⟩ | ⟨s1, tr', row', s2⟩
    · rw [s2]
      refine ⟨_, _, _, rfl, Or.inr ⟨m, ρ, by omega, ?_, rfl, s3⟩⟩
      show (match scan fb (9 + L) m (hitF r (nI kd) p q W ws m) w 5000 (frst fb (9 + L) m) with | some ρ => some (m, ρ) | none => few fb (9 + L) (hitF r (nI kd) p q W ws) w d (m + 1)) = _
      rw [s1]
    · rw [s2, v_l, nI_add]
      obtain ⟨v, tr2, row2, g1, g2⟩ := ih f (m + 1) tr' row' (by omega) (by omega) (by omega)
      refine ⟨v, tr2, row2, g1, ?_⟩
      have hf : few fb (9 + L) (hitF r (nI kd) p q W ws) w (d + 1) m = few fb (9 + L) (hitF r (nI kd) p q W ws) w d (m + 1) := by
        show (match scan fb (9 + L) m (hitF r (nI kd) p q W ws m) w 5000 (frst fb (9 + L) m) with | some ρ => some (m, ρ) | none => few fb (9 + L) (hitF r (nI kd) p q W ws) w d (m + 1)) = _
        rw [s1]
      rw [hf]
      exact g2
/-- FEWEST by the reference -/
theorem e_few9 {p q a kd x co sh gu st w : Nat} {sg : Nat → Nat} {cells now : Nat → Int32} (ws tr row : Nat → Int32) (hW : W ≤ 8) (hL : L ≤ 6) (h0 : r 0 = nI W) (h1 : r 1 = nI L) (h3 : r 3 = fb) (h4 : r 4 = nI p) (h5 : r 5 = nI q) (ha : a < 5) (hw : w < W) (hb' : SAb W L kd x co sh gu st sg) (hv : SAv r cells now a kd x co sh gu st sg) : ∃ v ws' tr' row', sX9_fewestFor r now ws tr row (nI a) (nI w) = some (v, ws', tr', row') ∧ ((few fb (9 + L) (hitF r (nI kd) p q W (wA r kd p q gu sh sg)) w (min 4 (6 - sh)) 0 = none ∧ v = -4) ∨ ∃ m' ρ, m' ≤ 3 ∧ few fb (9 + L) (hitF r (nI kd) p q W (wA r kd p q gu sh sg)) w (min 4 (6 - sh)) 0 = some (m', ρ) ∧ v = nI m' ∧ ∀ j, j < m' → row' j = nI (ρ j)) := by
  obtain ⟨ws', w1, w2⟩ := e_wA9 ws hW hL h0 h4 h5 ha hb' hv
  unfold sX9_fewestFor
  rw [w1, v_b]
  obtain ⟨v, tr', row', e1, e2⟩ := f11 (fb := fb) (ws := ws') (now := now) (p := p) (q := q) hW hL h0 h1 h3 h4 h5 ha hv.1.2 hb'.2.2.2.1 hv.2.2.2.1.2 hw (min 4 (6 - sh)) vF 0 tr row rfl (by omega) (by show min 4 (6 - sh) < 20000; omega)
  have hh : hitF r (nI kd) p q W ws' = hitF r (nI kd) p q W (wA r kd p q gu sh sg) := by
    funext m ρ
    unfold hitF
    refine gb_congr W 0 none (fun v hv => ?_) (fun v e => by cases e)
    unfold rowW
    rw [w2 v (by omega)]
  rw [hh] at e2
  exact ⟨v, ws', tr', row', e1, e2⟩
end ROWS9

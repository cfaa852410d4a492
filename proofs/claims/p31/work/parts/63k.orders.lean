/-! values: orders, one after the other; the first least -/
def perm : Nat → List Nat → List (List Nat)
  | 0, _ => [[]]
  | d + 1, l => l.flatMap (fun j => (perm d (l.erase j)).map (fun x => j :: x))
def oL (l : List Nat) : Nat → Int32 := fun j => nI (l.getD j 0)
def chk (n : Nat) : List (List Nat) → Bool
  | [] => true
  | [l] => match sX9_nextOrder (oL l) (nI n) with
    | some z => z.1 == nI 0
    | none => false
  | l :: l' :: r => (match sX9_nextOrder (oL l) (nI n) with
    | some z => z.1 == nI 1 && (List.range n).all (fun j => z.2 j == nI (l'.getD j 0))
    | none => false) && chk n (l' :: r)
set_option maxRecDepth 1000000 in
theorem chk_ok : ∀ n, n ≤ 5 → chk n (perm n (List.range n)) = true := by decide +kernel
def okL (n : Nat) (l : List Nat) : Bool := l.length == n && l.all (fun j => decide (j < n))
set_option maxRecDepth 1000000 in
theorem perm_ok : ∀ n, n ≤ 5 → (perm n (List.range n)).all (okL n) = true ∧ (perm n (List.range n)).length ≤ 120 := by decide +kernel
def agr (n : Nat) (o o' : Nat → Int32) : Prop := ∀ j, j < n → o j = o' j
def rel2 (n : Nat) (x y : Option (Int32 × (Nat → Int32))) : Prop := (x = none ∧ y = none) ∨ ∃ a b, x = some a ∧ y = some b ∧ a.1 = b.1 ∧ agr n a.2 b.2
theorem r2_g {n : Nat} {b : Bool} {x y : Option (Int32 × (Nat → Int32))} (h : b = true → rel2 n x y) : rel2 n (vg b x) (vg b y) := by
  cases b with
  | false => exact Or.inl ⟨rfl, rfl⟩
  | true => exact h rfl
theorem r2_i {n : Nat} {c : Prop} {ic : Decidable c} {x y x' y' : Option (Int32 × (Nat → Int32))} (h1 : c → rel2 n x x') (h2 : ¬ c → rel2 n y y') : rel2 n (vi c ic x y) (vi c ic x' y') := by
  by_cases h : c
  · rw [vi_p h, vi_p h]; exact h1 h
  · rw [vi_n h, vi_n h]; exact h2 h
theorem vin_t {y : Int32} {n : Nat} (h : vin y n = true) : 0 ≤ y.toInt ∧ y.toNatClampNeg < n := by
  simp only [vin, Bool.and_eq_true, decide_eq_true_eq, i_le, i_0] at h
  exact h
theorem agr_upd {n : Nat} {o o' : Nat → Int32} (h : agr n o o') (k : Nat) (x : Int32) : agr n (upd o k x) (upd o' k x) := by
  intro j hj
  by_cases e : j = k
  · rw [u_eq e, u_eq e]
  · rw [u_ne e, u_ne e]; exact h j hj
theorem dec1 {y : Int32} (h : 0 ≤ y.toInt) : (y + (-1)).toInt = y.toInt - 1 := by
  have := i_hi y
  rw [i_add, i_m1]
  omega
theorem c100 {n : Nat} : ∀ (fuel : Nat) (x y : Int32) (o o' : Nat → Int32), agr n o o' → y.toInt < n → rel2 n (LX9_nextOrder_100 fuel x y o) (LX9_nextOrder_100 fuel x y o') := by
  intro fuel
  induction fuel with
  | zero => intro x y o o' h hy; exact Or.inl ⟨rfl, rfl⟩
  | succ f ih =>
    intro x y o o' h hy
    rw [LX9_nextOrder_100, LX9_nextOrder_100]
    refine r2_i (fun c => Or.inr ⟨_, _, rfl, rfl, rfl, h⟩) (fun c => ?_)
    rw [i_le] at c
    refine r2_g (fun g1 => ?_)
    obtain ⟨g2, g3⟩ := vin_t g1
    rw [v_l, v_l, h x.toNatClampNeg (by rw [i_clamp]; omega)]
    refine r2_g (fun g4 => ?_)
    obtain ⟨g5, g6⟩ := vin_t g4
    rw [v_l, v_l, h y.toNatClampNeg (by rw [i_clamp]; omega)]
    refine r2_g (fun _ => ?_)
    rw [v_l, v_l]
    refine r2_g (fun _ => ?_)
    simp only [v_l]
    exact ih _ _ _ _ (agr_upd (agr_upd h _ _) _ _) (by rw [dec1 g5]; omega)
theorem c41 {n : Nat} (hn : n ≤ 5) : ∀ (fuel : Nat) (k j : Int32) (o o' : Nat → Int32), agr n o o' → k.toInt < n → j.toInt < n → rel2 n (LX9_nextOrder_41 (nI n) k o fuel j) (LX9_nextOrder_41 (nI n) k o' fuel j) := by
  intro fuel
  induction fuel with
  | zero => intro k j o o' h hk hj; exact Or.inl ⟨rfl, rfl⟩
  | succ f ih =>
    intro k j o o' h hk hj
    rw [LX9_nextOrder_41, LX9_nextOrder_41]
    refine r2_g (fun g1 => ?_)
    obtain ⟨g2, g3⟩ := vin_t g1
    refine r2_g (fun g4 => ?_)
    obtain ⟨g5, g6⟩ := vin_t g4
    rw [h k.toNatClampNeg (by rw [i_clamp]; omega), h j.toNatClampNeg (by rw [i_clamp]; omega)]
    refine r2_i (fun c => ?_) (fun c => ?_)
    · refine r2_g (fun _ => ?_)
      rw [v_l, v_l]
      refine r2_g (fun _ => ?_)
      rw [v_l, v_l]
      refine r2_g (fun _ => ?_)
      rw [v_l, v_l]
      refine r2_g (fun _ => ?_)
      simp only [v_l]
      exact c100 vF _ _ _ _ (agr_upd (agr_upd h _ _) _ _) (by rw [i_sub, i_nI _ (by omega), i_nI _ (by decide)]; omega)
    · simp only [v_l]
      exact ih _ _ _ _ h hk (by rw [dec1 g2]; omega)
theorem c4 {n : Nat} (hn : n ≤ 5) : ∀ (fuel : Nat) (k : Int32) (o o' : Nat → Int32), agr n o o' → k.toInt + 1 < n → rel2 n (LX9_nextOrder_4 (nI n) o fuel k) (LX9_nextOrder_4 (nI n) o' fuel k) := by
  intro fuel
  induction fuel with
  | zero => intro k o o' h hk; exact Or.inl ⟨rfl, rfl⟩
  | succ f ih =>
    intro k o o' h hk
    have hs : (nI n - nI 1).toInt < n := by rw [i_sub, i_nI _ (by omega), i_nI _ (by decide)]; omega
    rw [LX9_nextOrder_4, LX9_nextOrder_4]
    refine r2_i (fun c => ?_) (fun c => ?_)
    · refine r2_i (fun _ => ?_) (fun _ => Or.inr ⟨_, _, rfl, rfl, rfl, h⟩)
      rw [v_l, v_l]
      exact c41 hn vF _ _ _ _ h (by omega) hs
    · refine r2_g (fun g1 => ?_)
      obtain ⟨g2, g3⟩ := vin_t g1
      refine r2_g (fun g4 => ?_)
      have e1 : (k + nI 1).toInt = k.toInt + 1 := by rw [i_add, i_nI _ (by decide)]; omega
      rw [h k.toNatClampNeg (by rw [i_clamp]; omega), h (k + nI 1).toNatClampNeg (by rw [i_clamp, e1]; omega)]
      refine r2_i (fun _ => ?_) (fun _ => ?_)
      · refine r2_i (fun _ => ?_) (fun _ => Or.inr ⟨_, _, rfl, rfl, rfl, h⟩)
        rw [v_l, v_l]
        exact c41 hn vF _ _ _ _ h (by omega) hs
      · rw [v_l, v_l]
        exact ih _ _ _ h (by rw [dec1 g2]; omega)
theorem next_rel {n : Nat} (hn : n ≤ 5) {o o' : Nat → Int32} (h : agr n o o') : rel2 n (sX9_nextOrder o (nI n)) (sX9_nextOrder o' (nI n)) := by
  unfold sX9_nextOrder
  rw [v_l, v_l]
  exact c4 hn vF _ _ _ h (by rw [i_sub, i_nI _ (by omega), i_nI _ (by decide)]; omega)
/-- the last order; and one with another behind it -/
theorem next_end {n : Nat} {l : List Nat} {o : Nat → Int32} (hn : n ≤ 5) (hc : chk n [l] = true) (h : agr n o (oL l)) : ∃ o', sX9_nextOrder o (nI n) = some (nI 0, o') := by
  unfold chk at hc
  rcases next_rel hn h with ⟨_, e⟩ | ⟨a, b, e1, e2, e3, _⟩
  · rw [e] at hc; cases hc
  · rw [e2] at hc
    have hb : b.1 = nI 0 := by simpa using hc
    exact ⟨a.2, by rw [e1, ← hb, ← e3]⟩
theorem next_more {n : Nat} {l l' : List Nat} {L : List (List Nat)} {o : Nat → Int32} (hn : n ≤ 5) (hc : chk n (l :: l' :: L) = true) (h : agr n o (oL l)) : ∃ o', sX9_nextOrder o (nI n) = some (nI 1, o') ∧ agr n o' (oL l') ∧ chk n (l' :: L) = true := by
  unfold chk at hc
  rw [Bool.and_eq_true] at hc
  obtain ⟨h1, h2⟩ := hc
  rcases next_rel hn h with ⟨_, e⟩ | ⟨a, b, e1, e2, e3, e4⟩
  · rw [e] at h1; cases h1
  · rw [e2] at h1
    have hb : b.1 = nI 1 ∧ ∀ j, j < n → b.2 j = nI (l'.getD j 0) := by simpa using h1
    exact ⟨a.2, by rw [e1, ← hb.1, ← e3], fun j hj => (e4 j hj).trans (hb.2 j hj), h2⟩
/-! the first least of a list -/
section OM
variable {α : Type}
def om (f : α → Nat) : List α → Option (Nat × α)
  | [] => none
  | x :: xs => match om f xs with
    | none => some (f x, x)
    | some (m, b) => if m < f x then some (m, b) else some (f x, x)
theorem om_c0 {f : α → Nat} {x : α} {xs : List α} (h : om f xs = none) : om f (x :: xs) = some (f x, x) := by
  unfold om
  rw [h]
theorem om_c1 {f : α → Nat} {x b : α} {xs : List α} {m : Nat} (h : om f xs = some (m, b)) : om f (x :: xs) = if m < f x then some (m, b) else some (f x, x) := by
  rw [om, h]
theorem om_some {f : α → Nat} {x : α} {xs : List α} : ∃ m b, om f (x :: xs) = some (m, b) := by
  cases e : om f xs with
  | none => exact ⟨_, _, om_c0 e⟩
  | some a =>
    obtain ⟨m, b⟩ := a
    rw [om_c1 e]
    by_cases c : m < f x
    · rw [if_pos c]; exact ⟨_, _, rfl⟩
    · rw [if_neg c]; exact ⟨_, _, rfl⟩
theorem om_in {f : α → Nat} : ∀ {xs : List α} {m : Nat} {b : α}, om f xs = some (m, b) → m = f b ∧ b ∈ xs := by
  intro xs
  induction xs with
  | nil => intro m b h; cases h
  | cons x xs ih =>
    intro m b h
    cases e : om f xs with
    | none => rw [om_c0 e] at h; cases h; exact ⟨rfl, List.mem_cons_self⟩
    | some a =>
      obtain ⟨m1, b1⟩ := a
      rw [om_c1 e] at h
      obtain ⟨i1, i2⟩ := ih e
      by_cases c : m1 < f x
      · rw [if_pos c] at h; cases h; exact ⟨i1, List.mem_cons_of_mem _ i2⟩
      · rw [if_neg c] at h; cases h; exact ⟨rfl, List.mem_cons_self⟩
theorem om_congr {f g : α → Nat} : ∀ {xs : List α}, (∀ x, x ∈ xs → f x = g x) → om f xs = om g xs := by
  intro xs
  induction xs with
  | nil => intro _; rfl
  | cons x xs ih =>
    intro h
    rw [om, om, ih (fun y hy => h y (List.mem_cons_of_mem _ hy)), h x List.mem_cons_self]
theorem om_mono {f g : α → Nat} : ∀ {xs : List α}, (∀ x y, x ∈ xs → y ∈ xs → (g x < g y ↔ f x < f y)) → om g xs = (om f xs).map (fun z => (g z.2, z.2)) := by
  intro xs
  induction xs with
  | nil => intro _; rfl
  | cons x xs ih =>
    intro h
    have i1 := ih (fun y z hy hz => h y z (List.mem_cons_of_mem _ hy) (List.mem_cons_of_mem _ hz))
    cases e : om f xs with
    | none =>
      rw [e] at i1
      rw [om_c0 e, om_c0 i1]
      rfl
    | some a =>
      obtain ⟨m, b⟩ := a
      obtain ⟨j1, j2⟩ := om_in e
      rw [e] at i1
      rw [om_c1 e, om_c1 i1, j1]
      have k := h b x (List.mem_cons_of_mem _ j2) List.mem_cons_self
      by_cases c : f b < f x
      · rw [if_pos c, if_pos (k.2 c)]; rfl
      · rw [if_neg c, if_neg (fun q => c (k.1 q))]; rfl
def fmn (f : α → Nat) : List α → Nat → Option α → Nat × Option α
  | [], m, b => (m, b)
  | x :: xs, m, b => if f x < m then fmn f xs (f x) (some x) else fmn f xs m b
theorem fmn_om (f : α → Nat) : ∀ (xs : List α) (m : Nat) (b : Option α), fmn f xs m b = match om f xs with
    | none => (m, b)
    | some (m', b') => if m' < m then (m', some b') else (m, b) := by
  intro xs
  induction xs with
  | nil => intro m b; rfl
  | cons x xs ih =>
    intro m b
    show (if f x < m then fmn f xs (f x) (some x) else fmn f xs m b) = _
    rw [ih, ih]
    cases h : om f xs with
    | none => rw [om_c0 h]
    | some mb =>
      obtain ⟨m', b'⟩ := mb
      rw [om_c1 h]
      dsimp only
      by_cases c1 : f x < m
      · rw [if_pos c1]
        by_cases c2 : m' < f x
        · rw [if_pos c2, if_pos c2]
          dsimp only
          rw [if_pos (show m' < m by omega)]
        · rw [if_neg c2, if_neg c2]
          dsimp only
          rw [if_pos c1]
      · rw [if_neg c1]
        by_cases c2 : m' < f x
        · rw [if_pos c2]
        · rw [if_neg c2, if_neg (show ¬ m' < m by omega)]
          dsimp only
          rw [if_neg c1]
def cmb (x y : Option (Nat × α)) : Option (Nat × α) := match x, y with
  | none, y => y
  | some a, none => some a
  | some a, some b => if b.1 < a.1 then some b else some a
theorem om_app (f : α → Nat) : ∀ xs ys, om f (xs ++ ys) = cmb (om f xs) (om f ys) := by
  intro xs ys
  induction xs with
  | nil => rfl
  | cons x xs ih =>
    rw [List.cons_append]
    cases h1 : om f xs with
    | none =>
      rw [om_c0 h1]
      rw [h1] at ih
      cases h2 : om f ys with
      | none => rw [h2] at ih; rw [om_c0 ih]; rfl
      | some b => rw [h2] at ih; obtain ⟨m, b⟩ := b; rw [om_c1 ih]; rfl
    | some a =>
      obtain ⟨m1, b1⟩ := a
      rw [om_c1 h1]
      rw [h1] at ih
      cases h2 : om f ys with
      | none =>
        rw [h2] at ih
        rw [om_c1 ih]
        by_cases c : m1 < f x
        · rw [if_pos c]; rfl
        · rw [if_neg c]; rfl
      | some b =>
        obtain ⟨m2, b2⟩ := b
        rw [h2] at ih
        by_cases c2 : m2 < m1
        · rw [show cmb (some (m1, b1)) (some (m2, b2)) = some (m2, b2) from if_pos c2] at ih
          rw [om_c1 ih]
          by_cases c : m1 < f x
          · rw [if_pos c, if_pos (by omega), show cmb (some (m1, b1)) (some (m2, b2)) = some (m2, b2) from if_pos c2]
          · rw [if_neg c]; rfl
        · rw [show cmb (some (m1, b1)) (some (m2, b2)) = some (m1, b1) from if_neg c2] at ih
          rw [om_c1 ih]
          by_cases c : m1 < f x
          · rw [if_pos c, show cmb (some (m1, b1)) (some (m2, b2)) = some (m1, b1) from if_neg c2]
          · rw [if_neg c, show cmb (some (f x, x)) (some (m2, b2)) = some (f x, x) from if_neg (show ¬ m2 < f x by omega)]
end OM
theorem om_map {f f' : List Nat → Nat} {k j : Nat} (h : ∀ x, f (j :: x) = k + f' x) : ∀ xs, om f (xs.map (fun x => j :: x)) = (om f' xs).map (fun z => (k + z.1, j :: z.2)) := by
  intro xs
  induction xs with
  | nil => rfl
  | cons x xs ih =>
    rw [List.map_cons]
    cases h1 : om f' xs with
    | none =>
      rw [h1] at ih
      rw [om_c0 h1, om_c0 ih, h x]
      rfl
    | some a =>
      obtain ⟨m1, b1⟩ := a
      rw [h1] at ih
      rw [om_c1 h1, om_c1 ih, h x]
      dsimp only
      by_cases c : m1 < f' x
      · rw [if_pos c, if_pos (show k + m1 < k + f' x by omega)]; rfl
      · rw [if_neg c, if_neg (show ¬ k + m1 < k + f' x by omega)]; rfl
/-- what an order costs, place by place -/
def cs (c : Nat → Nat → Nat) : Nat → List Nat → Nat
  | _, [] => 0
  | i, j :: l => c i j + cs c (i + 1) l
theorem cs_le {c : Nat → Nat → Nat} {N : Nat} (h : ∀ i j, c i j ≤ N) : ∀ (l : List Nat) (i : Nat), cs c i l ≤ N * l.length := by
  intro l
  induction l with
  | nil => intro i; exact Nat.zero_le _
  | cons j l ih =>
    intro i
    have := ih (i + 1)
    have := h i j
    show c i j + cs c (i + 1) l ≤ N * (l.length + 1)
    rw [Nat.mul_succ]
    omega
/-- the first least of all orders of a row, from a place on -/
def best (c : Nat → Nat → Nat) (d i : Nat) (l : List Nat) : Option (Nat × List Nat) := om (cs c i) (perm d l)
def pick (c : Nat → Nat → Nat) (d i : Nat) (l : List Nat) : List Nat → Option (Nat × List Nat)
  | [] => none
  | j :: js => cmb ((best c d (i + 1) (l.erase j)).map (fun z => (c i j + z.1, j :: z.2))) (pick c d i l js)
theorem best_s (c : Nat → Nat → Nat) (d i : Nat) (l : List Nat) : best c (d + 1) i l = pick c d i l l := by
  have key : ∀ js : List Nat, om (cs c i) (js.flatMap (fun j => (perm d (l.erase j)).map (fun x => j :: x))) = pick c d i l js := by
    intro js
    induction js with
    | nil => rfl
    | cons j js ih =>
      rw [List.flatMap_cons, om_app, ih, om_map (f' := cs c (i + 1)) (fun x => rfl)]
      rfl
  exact key l
/-- the same, choice by choice -/
def bst (c : Nat → Nat → Nat) : Nat → Nat → List Nat → Nat × List Nat
  | 0, _, _ => (0, [])
  | d + 1, i, l => match om (fun j => c i j + (bst c d (i + 1) (l.erase j)).1) l with
    | none => (0, [])
    | some (v, j) => (v, j :: (bst c d (i + 1) (l.erase j)).2)
theorem bst_s {c : Nat → Nat → Nat} {d i v j : Nat} {l : List Nat} (e : om (fun j => c i j + (bst c d (i + 1) (l.erase j)).1) l = some (v, j)) : bst c (d + 1) i l = (v, j :: (bst c d (i + 1) (l.erase j)).2) := by
  rw [bst, e]
theorem pick_om {c : Nat → Nat → Nat} {d i : Nat} {l : List Nat} (h : ∀ j, j ∈ l → best c d (i + 1) (l.erase j) = some (bst c d (i + 1) (l.erase j))) : ∀ js : List Nat, (∀ j, j ∈ js → j ∈ l) → pick c d i l js = (om (fun j => c i j + (bst c d (i + 1) (l.erase j)).1) js).map (fun z => (z.1, z.2 :: (bst c d (i + 1) (l.erase z.2)).2)) := by
  intro js
  induction js with
  | nil => intro _; rfl
  | cons j js ih =>
    intro hs
    show cmb ((best c d (i + 1) (l.erase j)).map (fun z => (c i j + z.1, j :: z.2))) (pick c d i l js) = _
    rw [ih (fun k hk => hs k (List.mem_cons_of_mem _ hk)), h j (hs j List.mem_cons_self)]
    cases e : om (fun j => c i j + (bst c d (i + 1) (l.erase j)).1) js with
    | none => rw [om_c0 e]; rfl
    | some a =>
      obtain ⟨m, b⟩ := a
      rw [om_c1 e]
      by_cases q : m < c i j + (bst c d (i + 1) (l.erase j)).1
      · rw [if_pos q]
        exact if_pos q
      · rw [if_neg q]
        exact if_neg q
theorem ne_nil {d : Nat} {l : List Nat} (h : l.length = d + 1) : ∃ x xs, l = x :: xs := by
  cases l with
  | nil => cases h
  | cons x xs => exact ⟨x, xs, rfl⟩
theorem er_len {d j : Nat} {l : List Nat} (h : l.length = d + 1) (hj : j ∈ l) : (l.erase j).length = d := by
  rw [List.length_erase_of_mem hj]
  omega
theorem best_bst (c : Nat → Nat → Nat) : ∀ (d i : Nat) (l : List Nat), l.length = d → best c d i l = some (bst c d i l) := by
  intro d
  induction d with
  | zero => intro i l _; rfl
  | succ d ih =>
    intro i l hl
    rw [best_s, pick_om (fun j hj => ih _ _ (er_len hl hj)) l (fun j hj => hj)]
    obtain ⟨x, xs, e⟩ := ne_nil hl
    obtain ⟨m, b, e1⟩ := om_some (f := fun j => c i j + (bst c d (i + 1) (l.erase j)).1) (x := x) (xs := xs)
    rw [← e] at e1
    rw [bst_s e1, e1]
    rfl
theorem bst_ok (c : Nat → Nat → Nat) : ∀ (d i : Nat) (l : List Nat), l.length = d → (bst c d i l).2.length = d ∧ ∀ j, j ∈ (bst c d i l).2 → j ∈ l := by
  intro d
  induction d with
  | zero => intro i l _; exact ⟨rfl, fun j hj => absurd hj List.not_mem_nil⟩
  | succ d ih =>
    intro i l hl
    obtain ⟨x, xs, e⟩ := ne_nil hl
    obtain ⟨m, b, e1⟩ := om_some (f := fun j => c i j + (bst c d (i + 1) (l.erase j)).1) (x := x) (xs := xs)
    rw [← e] at e1
    obtain ⟨-, hb⟩ := om_in e1
    obtain ⟨i1, i2⟩ := ih (i + 1) (l.erase b) (er_len hl hb)
    rw [bst_s e1]
    refine ⟨by show (bst c d (i + 1) (l.erase b)).2.length + 1 = d + 1; rw [i1], fun j hj => ?_⟩
    rcases List.mem_cons.1 hj with q | q
    · rw [q]; exact hb
    · exact List.mem_of_mem_erase (i2 j q)
theorem bst_le {c : Nat → Nat → Nat} (h : ∀ i j, c i j ≤ 9) : ∀ (d i : Nat) (l : List Nat), (bst c d i l).1 ≤ 9 * d := by
  intro d
  induction d with
  | zero => intro i l; exact Nat.le_refl 0
  | succ d ih =>
    intro i l
    cases e : om (fun j => c i j + (bst c d (i + 1) (l.erase j)).1) l with
    | none =>
      rw [show bst c (d + 1) i l = (0, []) by rw [bst, e]]
      exact Nat.zero_le _
    | some a =>
      obtain ⟨v, j⟩ := a
      rw [bst_s e]
      have e1 := (om_in e).1
      have e2 := ih (i + 1) (l.erase j)
      have e3 := h i j
      show v ≤ 9 * (d + 1)
      omega
/-! rows and their places -/
theorem drop_g : ∀ (l : List Nat) (i : Nat), i < l.length → l.drop i = l.getD i 0 :: l.drop (i + 1)
  | [], i, h => absurd h (Nat.not_lt_zero i)
  | _ :: _, 0, _ => rfl
  | _ :: l, i + 1, h => drop_g l i (Nat.lt_of_succ_lt_succ h)
theorem mem_g : ∀ (l : List Nat) (i : Nat), i < l.length → l.getD i 0 ∈ l
  | [], i, h => absurd h (Nat.not_lt_zero i)
  | _ :: _, 0, _ => List.mem_cons_self
  | _ :: l, i + 1, h => List.mem_cons_of_mem _ (mem_g l i (Nat.lt_of_succ_lt_succ h))
theorem okL_l {n : Nat} {l : List Nat} (h : okL n l = true) : l.length = n ∧ ∀ i, i < n → l.getD i 0 < n := by
  unfold okL at h
  rw [Bool.and_eq_true] at h
  obtain ⟨h1, h2⟩ := h
  have h1 : l.length = n := by simpa using h1
  refine ⟨h1, fun i hi => ?_⟩
  have := List.all_eq_true.1 h2 _ (mem_g l i (by omega))
  exact of_decide_eq_true this
theorem range_g : ∀ n, n ≤ 5 → ∀ j, j < n → (List.range n).getD j 0 = j := by decide
theorem perm_hd : ∀ n, n ≤ 5 → (perm n (List.range n)).head? = some (List.range n) := by decide +kernel
theorem perm_cons {n : Nat} (hn : n ≤ 5) : ∃ T, perm n (List.range n) = List.range n :: T := by
  have h := perm_hd n hn
  cases e : perm n (List.range n) with
  | nil => rw [e] at h; cases h
  | cons x T =>
    rw [e] at h
    exact ⟨T, by rw [show x = List.range n from Option.some.inj h]⟩
theorem fo_loop {n : Nat} (hn : n ≤ 5) : ∀ (d fuel k : Nat) (order : Nat → Int32), d = n - k → k ≤ n → d < fuel → (∀ j, j < k → order j = nI j) → ∃ order', LX9_firstOrder_2 (nI n) fuel (nI k) order = some order' ∧ ∀ j, j < n → order' j = nI j := by
  intro d
  induction d with
  | zero =>
    intro fuel k order q1 q2 q3 q4
    obtain ⟨f, rfl⟩ : ∃ f, fuel = f + 1 := ⟨fuel - 1, by omega⟩
    rw [LX9_firstOrder_2, vi_p (show nI n ≤ nI k from by rw [n_le (by omega) (by omega)]; omega)]
    exact ⟨_, rfl, fun j hj => q4 j (by omega)⟩
  | succ d ih =>
    intro fuel k order q1 q2 q3 q4
    obtain ⟨f, rfl⟩ : ∃ f, fuel = f + 1 := ⟨fuel - 1, by omega⟩
    rw [LX9_firstOrder_2, vi_n (show ¬ nI n ≤ nI k from by rw [n_le (by omega) (by omega)]; omega), v_g (by omega) (by omega), n_cl (by omega)]
    simp only [v_l, nI_add]
    refine ih f (k + 1) _ (by omega) (by omega) (by omega) (fun j hj => ?_)
    by_cases e : j = k
    · rw [u_eq e, e]
    · rw [u_ne e]; exact q4 j (by omega)
theorem e_firstOrder {n : Nat} (hn : n ≤ 5) (order : Nat → Int32) : ∃ order', sX9_firstOrder order (nI n) = some order' ∧ agr n order' (oL (List.range n)) := by
  obtain ⟨o, o1, o2⟩ := fo_loop hn n vF 0 order rfl (by omega) (by show n < 20000; omega) (fun j hj => absurd hj (by omega))
  exact ⟨o, o1, fun j hj => by rw [o2 j hj]; show nI j = nI ((List.range n).getD j 0); rw [range_g n hn j hj]⟩

/-! the reference's orders -/
def perOK (f : Nat → Int32) (n : Int) : Prop := (∀ i : Nat, (i : Int) < n → 0 ≤ (f i).toInt ∧ (f i).toInt < n) ∧ (∀ i j : Nat, (i : Int) < n → (j : Int) < n → (f i).toInt = (f j).toInt → i = j)
def idnOK (f : Nat → Int32) (k : Int) : Prop := ∀ i : Nat, (i : Int) < k → (f i).toInt = i
theorem idn_upd {f : Nat → Int32} {y : Int32} {k : Int} (h : idnOK f y.toInt) (h0 : 0 ≤ y.toInt) (hk : k ≤ y.toInt + 1) : idnOK (upd f (Int32.toNatClampNeg y) y) k := by
  intro i hi
  unfold upd
  split
  · rename_i e
    rw [e, i_clamp]; omega
  · rename_i hne
    rw [i_clamp] at hne
    exact h i (by omega)
theorem idn_per {f : Nat → Int32} {n : Int} (h : idnOK f n) : perOK f n := by
  refine ⟨fun i hi => ?_, fun i j hi hj he => ?_⟩
  · have := h i hi; omega
  · have := h i hi
    have := h j hj
    omega
def swp (a b i : Nat) : Nat := if i = b then a else if i = a then b else i
theorem per_swap {f : Nat → Int32} {a b : Nat} {n : Int} (h : perOK f n) (ha : (a : Int) < n) (hb : (b : Int) < n) : perOK (upd (upd f a (f b)) b (f a)) n := by
  have e : ∀ i, upd (upd f a (f b)) b (f a) i = f (swp a b i) := by
    intro i
    unfold upd swp
    repeat' split
    all_goals first | rfl | (simp_all)
  have hs : ∀ i : Nat, (i : Int) < n → (swp a b i : Int) < n := by
    intro i hi
    unfold swp
    repeat' split
    all_goals omega
  refine ⟨fun i hi => ?_, fun i j hi hj he => ?_⟩
  · rw [e]; exact h.1 _ (hs i hi)
  · rw [e, e] at he
    have := h.2 _ _ (hs i hi) (hs j hj) he
    unfold swp at this
    repeat' split at this
    all_goals omega
def lx (f : Nat → Int32) (n : Int) : Int := (if 0 < n then 625 * (f 0).toInt else 0) + (if 1 < n then 125 * (f 1).toInt else 0) + (if 2 < n then 25 * (f 2).toInt else 0) + (if 3 < n then 5 * (f 3).toInt else 0) + (if 4 < n then (f 4).toInt else 0)
theorem lx_lim {f : Nat → Int32} {n : Int} (h : perOK f n) (hn : n ≤ 5) : 0 ≤ lx f n ∧ lx f n ≤ 3124 := by
  have h0 := h.1 0
  have h1 := h.1 1
  have h2 := h.1 2
  have h3 := h.1 3
  have h4 := h.1 4
  unfold lx
  refine ⟨?_, ?_⟩ <;> (repeat' split) <;> omega
theorem lx_next {f g : Nat → Int32} {j n : Int} (hf : perOK f n) (hg : perOK g n) (hs : samOK g f j) (h0 : 0 ≤ j) (hj : j < n) (hn : n ≤ 5) (hv : (f j.toNat).toInt < (g j.toNat).toInt) : lx f n < lx g n := by
  have f0 := hf.1 0
  have f1 := hf.1 1
  have f2 := hf.1 2
  have f3 := hf.1 3
  have f4 := hf.1 4
  have g0 := hg.1 0
  have g1 := hg.1 1
  have g2 := hg.1 2
  have g3 := hg.1 3
  have g4 := hg.1 4
  have s0 := hs 0
  have s1 := hs 1
  have s2 := hs 2
  have s3 := hs 3
  unfold lx
  rcases (show j = 0 ∨ j = 1 ∨ j = 2 ∨ j = 3 ∨ j = 4 by omega) with rfl | rfl | rfl | rfl | rfl
  · have hv' : (f 0).toInt < (g 0).toInt := hv
    repeat' split
    all_goals omega
  · have hv' : (f 1).toInt < (g 1).toInt := hv
    rw [s0 (by decide)]
    repeat' split
    all_goals omega
  · have hv' : (f 2).toInt < (g 2).toInt := hv
    rw [s0 (by decide), s1 (by decide)]
    repeat' split
    all_goals omega
  · have hv' : (f 3).toInt < (g 3).toInt := hv
    rw [s0 (by decide), s1 (by decide), s2 (by decide)]
    repeat' split
    all_goals omega
  · have hv' : (f 4).toInt < (g 4).toInt := hv
    rw [s0 (by decide), s1 (by decide), s2 (by decide), s3 (by decide)]
    repeat' split
    all_goals omega
theorem sam_trans {f g h : Nat → Int32} {k : Int} (a : samOK f g k) (b : samOK g h k) : samOK f h k := fun i hi => (a i hi).trans (b i hi)
theorem sam_mono {f g : Nat → Int32} {k k' : Int} (a : samOK f g k) (b : k' ≤ k) : samOK f g k' := fun i hi => a i (by omega)
def noOK (g : Nat → Int32) (n : Int) (z : Int32 × (Nat → Int32)) : Prop := perOK z.2 n ∧ (z.1.toInt = 0 ∨ z.1.toInt = 1 ∧ lx g n < lx z.2 n)
theorem no100 (g : Nat → Int32) (A n0 : Int) (hn : n0 ≤ 5) : ∀ (n : Nat) (a b : Int32) (f : Nat → Int32), 0 ≤ A → A ≤ a.toInt → a.toInt ≤ 5 → -1 ≤ b.toInt → b.toInt < n0 → perOK f n0 → samOK f g A → b.toInt - a.toInt + 6 < n → ok (LX9_nextOrder_100 n a b f) (fun z => z.1.toInt = 1 ∧ perOK z.2 n0 ∧ samOK z.2 g A) := by
  intro n
  induction n with
  | zero => intro a b f h0 h1 h2 h3 h4 hp hs hm; omega
  | succ n ih =>
    intro a b f h0 h1 h2 h3 h4 hp hs hm
    rw [LX9_nextOrder_100]
    refine ok_vi (fun _ => ok_some ⟨(show (nI 1).toInt = 1 by decide), hp, hs⟩) (fun h => ?_)
    rw [i_le] at h
    refine ok_vg (vin_of (by omega) (by omega)) ?_
    refine ok_vlet fun y3 e3 => ?_
    refine ok_vg (vin_of (by omega) (by omega)) ?_
    refine ok_vlet fun y5 e5 => ?_
    refine ok_vg (vin_of (by omega) (by omega)) ?_
    refine ok_vlet fun u7 e7 => ?_
    refine ok_vg (vin_of (by omega) (by omega)) ?_
    refine ok_vlet fun u9 e9 => ?_
    refine ok_vlet fun y10 e10 => ?_
    refine ok_vlet fun y11 e11 => ?_
    have t10 : y10.toInt = a.toInt + 1 := by rw [e10, i_add, i_nI _ (by decide)]; omega
    have t11 : y11.toInt = b.toInt - 1 := by rw [e11, i_add, i_m1]; omega
    refine ih y10 y11 u9 h0 (by omega) (by omega) (by omega) (by omega) ?_ ?_ (by omega)
    · rw [e9, e7, e5, e3]
      exact per_swap hp (by rw [i_clamp]; omega) (by rw [i_clamp]; omega)
    · rw [e9, e7]
      exact sam_trans (sam_upd (sam_upd (sam_refl _ _) (by omega)) (by omega)) hs
theorem no41 (f : Nat → Int32) (m i : Int32) (hm0 : 0 ≤ m.toInt) (hm : m.toInt ≤ 5) (h0 : 0 ≤ i.toInt) (h1 : i.toInt + 1 < m.toInt) (hp : perOK f m.toInt) (hlt : (f i.toInt.toNat).toInt ≤ (f (i.toInt.toNat + 1)).toInt) : ∀ (n : Nat) (j : Int32), i.toInt < j.toInt → j.toInt < m.toInt → j.toInt < n → ok (LX9_nextOrder_41 m i f n j) (fun z => noOK f m.toInt z) := by
  intro n
  induction n with
  | zero => intro j a b c; omega
  | succ n ih =>
    intro j a b c
    rw [LX9_nextOrder_41]
    refine ok_vg (vin_of (by omega) (by omega)) ?_
    refine ok_vg (vin_of (by omega) (by omega)) ?_
    refine ok_vi (fun h => ?_) (fun h => ?_)
    · rw [i_le, i_clamp, i_clamp] at h
      refine ok_vg (vin_of (by omega) (by omega)) ?_
      refine ok_vlet fun y16 e16 => ?_
      refine ok_vg (vin_of (by omega) (by omega)) ?_
      refine ok_vlet fun y18 e18 => ?_
      refine ok_vg (vin_of (by omega) (by omega)) ?_
      refine ok_vlet fun u20 e20 => ?_
      refine ok_vg (vin_of (by omega) (by omega)) ?_
      refine ok_vlet fun u22 e22 => ?_
      refine ok_vlet fun y23 e23 => ?_
      refine ok_vlet fun y24 e24 => ?_
      have t23 : y23.toInt = i.toInt + 1 := by rw [e23, i_add, i_nI _ (by decide)]; omega
      have t24 : y24.toInt = m.toInt - 1 := by rw [e24, i_sub, i_nI _ (by decide)]; omega
      have hp2 : perOK u22 m.toInt := by
        rw [e22, e20, e18, e16]
        exact per_swap hp (by rw [i_clamp]; omega) (by rw [i_clamp]; omega)
      refine ok_mono (no100 u22 (i.toInt + 1) m.toInt hm vF y23 y24 u22 (by omega) (by omega) (by omega) (by omega) (by omega) hp2 (sam_refl _ _) (by rw [vF_int]; omega)) fun z hz => ?_
      obtain ⟨z1, z2, z3⟩ := hz
      have hne : ¬ (f i.toInt.toNat).toInt = (f j.toInt.toNat).toInt := fun he => by
        have := hp.2 _ _ (by omega) (by omega) he
        omega
      refine ⟨z2, Or.inr ⟨z1, ?_⟩⟩
      refine lx_next (j := i.toInt) hp z2 ?_ h0 (by omega) hm ?_
      · refine sam_trans (sam_mono z3 (by omega)) ?_
        rw [e22, e20]
        exact sam_upd (sam_upd (sam_refl _ _) (by omega)) (by omega)
      · rw [z3 i.toInt.toNat (by omega), e22, e20, e18]
        have k1 : upd (upd f i.toNatClampNeg (f j.toNatClampNeg)) j.toNatClampNeg y16 i.toInt.toNat = f j.toInt.toNat := by
          unfold upd
          rw [if_neg (by rw [i_clamp]; omega), if_pos (by rw [i_clamp]), i_clamp]
        rw [k1]
        omega
    · rw [i_le, i_clamp, i_clamp] at h
      refine ok_vlet fun y e => ?_
      have t : y.toInt = j.toInt - 1 := by rw [e, i_add, i_m1]; omega
      have hj : ¬ j.toInt = i.toInt + 1 := fun he => by
        rw [show j.toInt.toNat = i.toInt.toNat + 1 by omega] at h
        omega
      exact ih y (by omega) (by omega) (by omega)
theorem no4 (f : Nat → Int32) (m : Int32) (hm0 : 0 ≤ m.toInt) (hm : m.toInt ≤ 5) (hp : perOK f m.toInt) : ∀ (n : Nat) (i : Int32), -2 ≤ i.toInt → i.toInt + 1 < m.toInt → i.toInt + 2 < n → ok (LX9_nextOrder_4 m f n i) (fun z => noOK f m.toInt z) := by
  intro n
  induction n with
  | zero => intro i a b c; omega
  | succ n ih =>
    intro i a b c
    have fin0 : ok (some (nI 0, f)) (fun z => noOK f m.toInt z) := ok_some ⟨hp, Or.inl (show (nI 0).toInt = 0 by decide)⟩
    rw [LX9_nextOrder_4]
    refine ok_vi (fun h => ?_) (fun h => ?_)
    · rw [i_lt, i_0] at h
      refine ok_vi (fun h' => ?_) (fun h' => fin0)
      rw [i_le, i_0] at h'
      omega
    · rw [i_lt, i_0] at h
      have t1 : (i + nI 1).toInt = i.toInt + 1 := by rw [i_add, i_nI _ (by decide)]; omega
      refine ok_vg (vin_of (by omega) (by omega)) ?_
      refine ok_vg (vin_of (by omega) (by omega)) ?_
      refine ok_vi (fun h' => ?_) (fun h' => ?_)
      · rw [i_le, i_clamp, i_clamp, t1, show (i.toInt + 1).toNat = i.toInt.toNat + 1 by omega] at h'
        refine ok_vi (fun h2 => ?_) (fun h2 => fin0)
        refine ok_vlet fun y e => ?_
        have t : y.toInt = m.toInt - 1 := by rw [e, i_sub, i_nI _ (by decide)]; omega
        exact no41 f m i hm0 hm (by omega) b hp h' vF y (by omega) (by omega) (by rw [vF_int]; omega)
      · refine ok_vlet fun y e => ?_
        have t : y.toInt = i.toInt - 1 := by rw [e, i_add, i_m1]; omega
        exact ih y (by omega) (by omega) (by omega)
set_option maxHeartbeats 1000000 in
set_option maxRecDepth 20000 in
theorem sX9_nextOrder_ok  (f_order : Nat → Int32) (x1 : Int32) (g0 : 0 ≤ x1.toInt) (g1 : x1.toInt ≤ 5) (g2 : perOK f_order x1.toInt) : ok (sX9_nextOrder f_order x1) (fun z => noOK f_order x1.toInt z) := by
  unfold sX9_nextOrder
  refine ok_vlet fun y e => ?_
  have t : y.toInt = x1.toInt - 2 := by rw [e, i_sub, i_nI _ (by decide)]; omega
  exact no4 f_order x1 g0 g1 g2 vF y (by omega) (by omega) (by rw [vF_int]; omega)
set_option maxHeartbeats 1000000 in
set_option maxRecDepth 20000 in
theorem LX9_firstOrder_2_ok  (y_1 : Int32) (g0 : 0 ≤ y_1.toInt) (g1 : y_1.toInt ≤ 5)  : ∀ (n : Nat) (y_2 : Int32) (f_order : (Nat → Int32)) (i0 : 0 ≤ y_2.toInt) (i1 : y_2.toInt ≤ y_1.toInt) (i2 : idnOK f_order y_2.toInt) (im : 5 - y_2.toInt < (n : Int)), ok (LX9_firstOrder_2 y_1 n y_2 f_order) (fun z => perOK z y_1.toInt) := by
  try simp (disch := decide) only [i_add, i_sub, i_mul, i_0, i_1, i_m1, i_m2, i_m3, i_m4, i_nI, i_eq, i_lt, i_le, i_clamp, true_or, or_true, true_and, and_true, false_or, or_false, false_and, and_false, i_l64, i_lN, l_eq, l_lt, l_le] at g0
  try simp (disch := decide) only [i_add, i_sub, i_mul, i_0, i_1, i_m1, i_m2, i_m3, i_m4, i_nI, i_eq, i_lt, i_le, i_clamp, true_or, or_true, true_and, and_true, false_or, or_false, false_and, and_false, i_l64, i_lN, l_eq, l_lt, l_le] at g1
  intro n
  induction n with
  | zero =>
    intro y_2 f_order i0 i1 i2 im
    exfalso
    first | omega | ((try simp (disch := decide) only [i_add, i_sub, i_mul, i_0, i_1, i_m1, i_m2, i_m3, i_m4, i_nI, i_eq, i_lt, i_le, i_clamp, true_or, or_true, true_and, and_true, false_or, or_false, false_and, and_false, i_l64, i_lN, l_eq, l_lt, l_le]) <;> omega)
  | succ n ih =>
    intro y_2 f_order i0 i1 i2 im
    rw [LX9_firstOrder_2]
    try simp (disch := decide) only [i_add, i_sub, i_mul, i_0, i_1, i_m1, i_m2, i_m3, i_m4, i_nI, i_eq, i_lt, i_le, i_clamp, true_or, or_true, true_and, and_true, false_or, or_false, false_and, and_false, i_l64, i_lN, l_eq, l_lt, l_le] at i0
    try simp (disch := decide) only [i_add, i_sub, i_mul, i_0, i_1, i_m1, i_m2, i_m3, i_m4, i_nI, i_eq, i_lt, i_le, i_clamp, true_or, or_true, true_and, and_true, false_or, or_false, false_and, and_false, i_l64, i_lN, l_eq, l_lt, l_le] at i1
    try simp (disch := decide) only [i_add, i_sub, i_mul, i_0, i_1, i_m1, i_m2, i_m3, i_m4, i_nI, i_eq, i_lt, i_le, i_clamp, true_or, or_true, true_and, and_true, false_or, or_false, false_and, and_false, i_l64, i_lN, l_eq, l_lt, l_le] at im
    refine ok_vi (fun h1 => ?_) (fun h1 => ?_)
    · try simp (disch := decide) only [i_add, i_sub, i_mul, i_0, i_1, i_m1, i_m2, i_m3, i_m4, i_nI, i_eq, i_lt, i_le, i_clamp, true_or, or_true, true_and, and_true, false_or, or_false, false_and, and_false, i_l64, i_lN, l_eq, l_lt, l_le] at h1
      refine ok_some ?_
      try dsimp only
      · first | assumption | exact idn_per (show idnOK f_order y_1.toInt by (rw [show y_1.toInt = y_2.toInt by omega]; assumption)) | exact idn_upd (by assumption) (by omega) (by first | omega | ((try simp (disch := decide) only [i_add, i_sub, i_mul, i_0, i_1, i_m1, i_m2, i_m3, i_m4, i_nI, i_eq, i_lt, i_le, i_clamp, true_or, or_true, true_and, and_true, false_or, or_false, false_and, and_false, i_l64, i_lN, l_eq, l_lt, l_le]) <;> omega))
    · try simp (disch := decide) only [i_add, i_sub, i_mul, i_0, i_1, i_m1, i_m2, i_m3, i_m4, i_nI, i_eq, i_lt, i_le, i_clamp, true_or, or_true, true_and, and_true, false_or, or_false, false_and, and_false, i_l64, i_lN, l_eq, l_lt, l_le] at h1
      refine ok_vg (vin_of (by first | omega | ((try simp (disch := decide) only [i_add, i_sub, i_mul, i_0, i_1, i_m1, i_m2, i_m3, i_m4, i_nI, i_eq, i_lt, i_le, i_clamp, true_or, or_true, true_and, and_true, false_or, or_false, false_and, and_false, i_l64, i_lN, l_eq, l_lt, l_le]) <;> omega)) (by first | omega | ((try simp (disch := decide) only [i_add, i_sub, i_mul, i_0, i_1, i_m1, i_m2, i_m3, i_m4, i_nI, i_eq, i_lt, i_le, i_clamp, true_or, or_true, true_and, and_true, false_or, or_false, false_and, and_false, i_l64, i_lN, l_eq, l_lt, l_le]) <;> omega))) ?_
      refine ok_vlet fun u3 hy2 => ?_
      subst hy2
      refine ok_vlet fun y4 hy3 => ?_
      try simp (disch := decide) only [i_add, i_sub, i_mul, i_0, i_1, i_m1, i_m2, i_m3, i_m4, i_nI, i_eq, i_lt, i_le, i_clamp, true_or, or_true, true_and, and_true, false_or, or_false, false_and, and_false, i_l64, i_lN, l_eq, l_lt, l_le] at hy3
      exact ih _ _ (by first | omega | ((try simp (disch := decide) only [i_add, i_sub, i_mul, i_0, i_1, i_m1, i_m2, i_m3, i_m4, i_nI, i_eq, i_lt, i_le, i_clamp, true_or, or_true, true_and, and_true, false_or, or_false, false_and, and_false, i_l64, i_lN, l_eq, l_lt, l_le]) <;> omega)) (by first | omega | ((try simp (disch := decide) only [i_add, i_sub, i_mul, i_0, i_1, i_m1, i_m2, i_m3, i_m4, i_nI, i_eq, i_lt, i_le, i_clamp, true_or, or_true, true_and, and_true, false_or, or_false, false_and, and_false, i_l64, i_lN, l_eq, l_lt, l_le]) <;> omega)) (by first | assumption | exact idn_per (show idnOK f_order y_1.toInt by (rw [show y_1.toInt = y_2.toInt by omega]; assumption)) | exact idn_upd (by assumption) (by omega) (by first | omega | ((try simp (disch := decide) only [i_add, i_sub, i_mul, i_0, i_1, i_m1, i_m2, i_m3, i_m4, i_nI, i_eq, i_lt, i_le, i_clamp, true_or, or_true, true_and, and_true, false_or, or_false, false_and, and_false, i_l64, i_lN, l_eq, l_lt, l_le]) <;> omega))) (by first | omega | ((try simp (disch := decide) only [i_add, i_sub, i_mul, i_0, i_1, i_m1, i_m2, i_m3, i_m4, i_nI, i_eq, i_lt, i_le, i_clamp, true_or, or_true, true_and, and_true, false_or, or_false, false_and, and_false, i_l64, i_lN, l_eq, l_lt, l_le]) <;> omega))
set_option maxHeartbeats 1000000 in
set_option maxRecDepth 20000 in
theorem sX9_firstOrder_ok  (f_order : Nat → Int32) (x1 : Int32) (g0 : 0 ≤ x1.toInt) (g1 : x1.toInt ≤ 5) : ok (sX9_firstOrder f_order x1) (fun z => perOK z x1.toInt) := by
  unfold sX9_firstOrder
  try simp (disch := decide) only [i_add, i_sub, i_mul, i_0, i_1, i_m1, i_m2, i_m3, i_m4, i_nI, i_eq, i_lt, i_le, i_clamp, true_or, or_true, true_and, and_true, false_or, or_false, false_and, and_false, i_l64, i_lN, l_eq, l_lt, l_le] at g0
  try simp (disch := decide) only [i_add, i_sub, i_mul, i_0, i_1, i_m1, i_m2, i_m3, i_m4, i_nI, i_eq, i_lt, i_le, i_clamp, true_or, or_true, true_and, and_true, false_or, or_false, false_and, and_false, i_l64, i_lN, l_eq, l_lt, l_le] at g1
  refine ok_mono (LX9_firstOrder_2_ok  _ (by first | omega | ((try simp (disch := decide) only [i_add, i_sub, i_mul, i_0, i_1, i_m1, i_m2, i_m3, i_m4, i_nI, i_eq, i_lt, i_le, i_clamp, true_or, or_true, true_and, and_true, false_or, or_false, false_and, and_false, i_l64, i_lN, l_eq, l_lt, l_le]) <;> omega)) (by first | omega | ((try simp (disch := decide) only [i_add, i_sub, i_mul, i_0, i_1, i_m1, i_m2, i_m3, i_m4, i_nI, i_eq, i_lt, i_le, i_clamp, true_or, or_true, true_and, and_true, false_or, or_false, false_and, and_false, i_l64, i_lN, l_eq, l_lt, l_le]) <;> omega)) _ _ _ (by first | omega | ((try simp (disch := decide) only [i_add, i_sub, i_mul, i_0, i_1, i_m1, i_m2, i_m3, i_m4, i_nI, i_eq, i_lt, i_le, i_clamp, true_or, or_true, true_and, and_true, false_or, or_false, false_and, and_false, i_l64, i_lN, l_eq, l_lt, l_le]) <;> omega)) (by first | omega | ((try simp (disch := decide) only [i_add, i_sub, i_mul, i_0, i_1, i_m1, i_m2, i_m3, i_m4, i_nI, i_eq, i_lt, i_le, i_clamp, true_or, or_true, true_and, and_true, false_or, or_false, false_and, and_false, i_l64, i_lN, l_eq, l_lt, l_le]) <;> omega)) (by first | assumption | exact fun i hi => absurd hi (by rw [i_nI _ (by decide)]; omega)) (by rw [vF_int]; first | omega | ((try simp (disch := decide) only [i_add, i_sub, i_mul, i_0, i_1, i_m1, i_m2, i_m3, i_m4, i_nI, i_eq, i_lt, i_le, i_clamp, true_or, or_true, true_and, and_true, false_or, or_false, false_and, and_false, i_l64, i_lN, l_eq, l_lt, l_le]) <;> omega))) fun zz2 hp1 => ?_
  try simp (disch := decide) only [i_add, i_sub, i_mul, i_0, i_1, i_m1, i_m2, i_m3, i_m4, i_nI, i_eq, i_lt, i_le, i_clamp, true_or, or_true, true_and, and_true, false_or, or_false, false_and, and_false, i_l64, i_lN, l_eq, l_lt, l_le] at hp1
  try dsimp only
  · first | assumption | exact fun i hi => absurd hi (by rw [i_nI _ (by decide)]; omega)

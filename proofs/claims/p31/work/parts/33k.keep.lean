/-! a scene keeps: what an actor has shown is 0 to 5 -/
def cellOK (f : Nat → Int32) (L : Int) : Prop := ∀ i : Nat, (i : Int) < L → i % 11 = 3 → 0 ≤ (f i).toInt ∧ (f i).toInt ≤ 5
theorem cellOK_upd {f : Nat → Int32} {y v : Int32} {L L' : Int} (h : cellOK f L) (h0 : 0 ≤ y.toInt) (hv : ¬ y.toInt % 11 = 3 ∨ 0 ≤ v.toInt ∧ v.toInt ≤ 5) (hL : L' ≤ L ∨ L' ≤ L + 1 ∧ L = y.toInt) : cellOK (upd f (Int32.toNatClampNeg y) v) L' := by
  intro i hi hm
  unfold upd
  split
  · rename_i he
    rw [i_clamp] at he
    omega
  · rename_i he
    rw [i_clamp] at he
    exact h i (by omega) hm
theorem cellOK_mono {f : Nat → Int32} {L L' : Int} (h : cellOK f L) (hl : L' ≤ L) : cellOK f L' := fun i hi hm => h i (by omega) hm
theorem cellOK_cpy {f g : Nat → Int32} {L : Int} (h : cellOK f L) (hl : L ≤ 55) : cellOK (va_cpy f g (Int32.toNatClampNeg (nI 0)) (Int32.toNatClampNeg (nI 0)) (Int32.toNatClampNeg (nI 55))) L := by
  intro i hi hm
  have e0 : (nI 0).toNatClampNeg = 0 := rfl
  have e1 : (nI 55).toNatClampNeg = 55 := by decide
  unfold va_cpy
  rw [e0, e1, if_pos ⟨Nat.zero_le _, by omega⟩, Nat.zero_add, Nat.sub_zero]
  exact h i hi hm
def shelfOK (rows : Nat → Int32) (k L : Int) : Prop := ∀ r : Nat, (r : Int) < k → cellOK (fun j => rows (55 * r + j)) L
theorem shelfOK_mono {rows : Nat → Int32} {k k' L : Int} (h : shelfOK rows k L) (hk : k' ≤ k) : shelfOK rows k' L := fun r hr => h r (by omega)
theorem shelfOK_put {rows p : Nat → Int32} {k : Int32} {K L : Int} (h : shelfOK rows k.toInt L) (hp : cellOK p L) (hl : L ≤ 55) (h0 : 0 ≤ k.toInt) (h8 : k.toInt ≤ 8) (hK : K ≤ k.toInt + 1) : shelfOK (va_cpy p rows (Int32.toNatClampNeg (nI 0)) (Int32.toNatClampNeg (k * (nI 55))) (Int32.toNatClampNeg (nI 55))) K L := by
  intro r hr i hi hm
  have e0 : (nI 0).toNatClampNeg = 0 := rfl
  have e1 : (nI 55).toNatClampNeg = 55 := by decide
  have e2 : (k * nI 55).toInt = k.toInt * 55 := by rw [i_mul, i_nI _ (by decide)]; omega
  have e3 : (k * nI 55).toNatClampNeg = 55 * k.toInt.toNat := by rw [i_clamp, e2]; omega
  rw [e0, e1, e3]
  show 0 ≤ (va_cpy p rows 0 (55 * k.toInt.toNat) 55 (55 * r + i)).toInt ∧ (va_cpy p rows 0 (55 * k.toInt.toNat) 55 (55 * r + i)).toInt ≤ 5
  by_cases hc : r = k.toInt.toNat
  · have e : va_cpy p rows 0 (55 * k.toInt.toNat) 55 (55 * r + i) = p i := by
      unfold va_cpy
      rw [if_pos ⟨by omega, by omega⟩]
      congr 1
      omega
    rw [e]
    exact hp i hi hm
  · have e : va_cpy p rows 0 (55 * k.toInt.toNat) 55 (55 * r + i) = rows (55 * r + i) := by
      unfold va_cpy
      rw [if_neg (by omega)]
    rw [e]
    exact h r (by omega) i hi hm
theorem shelfOK_shift {rows : Nat → Int32} {k : Int32} {K L : Int} (h : shelfOK rows k.toInt L) (hl : L ≤ 55) (h0 : 1 ≤ k.toInt) (h8 : k.toInt ≤ 8) (hK : K ≤ k.toInt - 1) : shelfOK (va_cpy rows rows (Int32.toNatClampNeg (nI 55)) (Int32.toNatClampNeg (nI 0)) (Int32.toNatClampNeg ((k - (nI 1)) * (nI 55)))) K L := by
  intro r hr i hi hm
  have e0 : (nI 0).toNatClampNeg = 0 := rfl
  have e1 : (nI 55).toNatClampNeg = 55 := by decide
  have e4 : (k - nI 1).toInt = k.toInt - 1 := by rw [i_sub, i_nI _ (by decide)]; omega
  have e2 : ((k - nI 1) * nI 55).toInt = (k.toInt - 1) * 55 := by rw [i_mul, e4, i_nI _ (by decide)]; omega
  have e3 : ((k - nI 1) * nI 55).toNatClampNeg = 55 * (k.toInt - 1).toNat := by rw [i_clamp, e2]; omega
  rw [e0, e1, e3]
  show 0 ≤ (va_cpy rows rows 55 0 (55 * (k.toInt - 1).toNat) (55 * r + i)).toInt ∧ (va_cpy rows rows 55 0 (55 * (k.toInt - 1).toNat) (55 * r + i)).toInt ≤ 5
  have e : va_cpy rows rows 55 0 (55 * (k.toInt - 1).toNat) (55 * r + i) = rows (55 * (r + 1) + i) := by
    unfold va_cpy
    rw [if_pos ⟨by omega, by omega⟩]
    congr 1
    omega
  rw [e]
  exact h (r + 1) (by omega) i hi hm
theorem shelfOK_take {rows g : Nat → Int32} {k : Int32} {K L : Int} (h : shelfOK rows K L) (hl : L ≤ 55) (h0 : 0 ≤ k.toInt) (h8 : k.toInt ≤ 8) (hK : k.toInt < K) : cellOK (va_cpy rows g (Int32.toNatClampNeg (k * (nI 55))) (Int32.toNatClampNeg (nI 0)) (Int32.toNatClampNeg (nI 55))) L := by
  intro i hi hm
  have e0 : (nI 0).toNatClampNeg = 0 := rfl
  have e1 : (nI 55).toNatClampNeg = 55 := by decide
  have e2 : (k * nI 55).toInt = k.toInt * 55 := by rw [i_mul, i_nI _ (by decide)]; omega
  have e3 : (k * nI 55).toNatClampNeg = 55 * k.toInt.toNat := by rw [i_clamp, e2]; omega
  unfold va_cpy
  rw [e0, e1, e3, if_pos ⟨by omega, by omega⟩, Nat.sub_zero]
  exact h k.toInt.toNat (by omega) i hi hm
set_option maxHeartbeats 1000000 in
set_option maxRecDepth 20000 in
theorem sX4_cell_sh_ok (L : Int) (f_cells : Nat → Int32) (x1 : Int32) (x2 : Int32) (g0 : cellOK f_cells L) (g1 : 0 ≤ x1.toInt) (g2 : x1.toInt ≤ 4) (g3 : 11 * x1.toInt + 3 < L) (g4 : x2.toInt = 3) : ok (sX4_cell f_cells x1 x2) (fun z => 0 ≤ z.toInt ∧ z.toInt ≤ 5) := by
  obtain ⟨k, hk, rfl⟩ := i_few x1 5 (by decide) g1 (by omega)
  have e2 : x2 = nI 3 := by rw [i_eq, i_nI _ (by decide)]; exact g4
  subst e2
  have ek : (nI k).toInt = k := i_nI k (by omega)
  have h := g0 (11 * k + 3) (by omega) (by omega)
  refine ⟨f_cells (11 * k + 3), ?_, h⟩
  have hh : ∀ k, k < 5 → (nI k * nI 11 + nI 3).toNatClampNeg = 11 * k + 3 ∧ ¬ (nI k * nI 11 + nI 3 < 0) ∧ ¬ (nI 55 ≤ nI k * nI 11 + nI 3) ∧ vin (nI k * nI 11 + nI 3) 55 = true := by decide
  obtain ⟨h1, h2, h3, h4⟩ := hh k hk
  simp only [sX4_cell, vlet, vi, vg]
  rw [if_neg h2, if_neg h3, h4, h1]
set_option maxHeartbeats 1000000 in
set_option maxRecDepth 20000 in
theorem sX4_set_sh_ok (L L' : Int) (f_cells : Nat → Int32) (x1 : Int32) (x2 : Int32) (x3 : Int32) (g0 : cellOK f_cells L) (g1 : 0 ≤ x1.toInt) (g2 : x1.toInt ≤ 4) (g3 : 0 ≤ x2.toInt) (g4 : x2.toInt ≤ 10) (g5 : ¬ x2.toInt = 3 ∨ 0 ≤ x3.toInt ∧ x3.toInt ≤ 5) (g6 : L' ≤ L ∨ L' ≤ L + 1 ∧ L = 11 * x1.toInt + x2.toInt) : ok (sX4_set f_cells x1 x2 x3) (fun z => cellOK z L') := by
  unfold sX4_set
  try simp (disch := decide) only [i_add, i_sub, i_mul, i_0, i_1, i_m1, i_m2, i_m3, i_m4, i_nI, i_eq, i_lt, i_le, i_clamp, true_or, or_true, true_and, and_true, false_or, or_false, false_and, and_false] at g1
  try simp (disch := decide) only [i_add, i_sub, i_mul, i_0, i_1, i_m1, i_m2, i_m3, i_m4, i_nI, i_eq, i_lt, i_le, i_clamp, true_or, or_true, true_and, and_true, false_or, or_false, false_and, and_false] at g2
  try simp (disch := decide) only [i_add, i_sub, i_mul, i_0, i_1, i_m1, i_m2, i_m3, i_m4, i_nI, i_eq, i_lt, i_le, i_clamp, true_or, or_true, true_and, and_true, false_or, or_false, false_and, and_false] at g3
  try simp (disch := decide) only [i_add, i_sub, i_mul, i_0, i_1, i_m1, i_m2, i_m3, i_m4, i_nI, i_eq, i_lt, i_le, i_clamp, true_or, or_true, true_and, and_true, false_or, or_false, false_and, and_false] at g4
  try simp (disch := decide) only [i_add, i_sub, i_mul, i_0, i_1, i_m1, i_m2, i_m3, i_m4, i_nI, i_eq, i_lt, i_le, i_clamp, true_or, or_true, true_and, and_true, false_or, or_false, false_and, and_false] at g5
  try simp (disch := decide) only [i_add, i_sub, i_mul, i_0, i_1, i_m1, i_m2, i_m3, i_m4, i_nI, i_eq, i_lt, i_le, i_clamp, true_or, or_true, true_and, and_true, false_or, or_false, false_and, and_false] at g6
  try (have hm : (x1 * (nI 11)).toInt = x1.toInt * 11 := by first | omega | ((try simp (disch := decide) only [i_add, i_sub, i_mul, i_0, i_1, i_m1, i_m2, i_m3, i_m4, i_nI, i_eq, i_lt, i_le, i_clamp, true_or, or_true, true_and, and_true, false_or, or_false, false_and, and_false]) <;> omega))
  try simp (disch := decide) only [i_add, i_sub, i_mul, i_0, i_1, i_m1, i_m2, i_m3, i_m4, i_nI, i_eq, i_lt, i_le, i_clamp, true_or, or_true, true_and, and_true, false_or, or_false, false_and, and_false] at hm
  try (have hm2 : ((x1 * (nI 11)) + x2).toInt = x1.toInt * 11 + x2.toInt := by first | omega | ((try simp (disch := decide) only [i_add, i_sub, i_mul, i_0, i_1, i_m1, i_m2, i_m3, i_m4, i_nI, i_eq, i_lt, i_le, i_clamp, true_or, or_true, true_and, and_true, false_or, or_false, false_and, and_false]) <;> omega))
  try simp (disch := decide) only [i_add, i_sub, i_mul, i_0, i_1, i_m1, i_m2, i_m3, i_m4, i_nI, i_eq, i_lt, i_le, i_clamp, true_or, or_true, true_and, and_true, false_or, or_false, false_and, and_false] at hm2
  refine ok_vlet fun y1 hy1 => ?_
  try simp (disch := decide) only [i_add, i_sub, i_mul, i_0, i_1, i_m1, i_m2, i_m3, i_m4, i_nI, i_eq, i_lt, i_le, i_clamp, true_or, or_true, true_and, and_true, false_or, or_false, false_and, and_false] at hy1
  refine ok_vi (fun h2 => ?_) (fun h2 => ?_)
  · try simp (disch := decide) only [i_add, i_sub, i_mul, i_0, i_1, i_m1, i_m2, i_m3, i_m4, i_nI, i_eq, i_lt, i_le, i_clamp, true_or, or_true, true_and, and_true, false_or, or_false, false_and, and_false] at h2
    refine ok_some ?_
    try dsimp only
    · first | exact cellOK_upd (by assumption) (by omega) (by omega) (by omega) | (exfalso; omega) | assumption
  · try simp (disch := decide) only [i_add, i_sub, i_mul, i_0, i_1, i_m1, i_m2, i_m3, i_m4, i_nI, i_eq, i_lt, i_le, i_clamp, true_or, or_true, true_and, and_true, false_or, or_false, false_and, and_false] at h2
    refine ok_vi (fun h3 => ?_) (fun h3 => ?_)
    · try simp (disch := decide) only [i_add, i_sub, i_mul, i_0, i_1, i_m1, i_m2, i_m3, i_m4, i_nI, i_eq, i_lt, i_le, i_clamp, true_or, or_true, true_and, and_true, false_or, or_false, false_and, and_false] at h3
      refine ok_some ?_
      try dsimp only
      · first | exact cellOK_upd (by assumption) (by omega) (by omega) (by omega) | (exfalso; omega) | assumption
    · try simp (disch := decide) only [i_add, i_sub, i_mul, i_0, i_1, i_m1, i_m2, i_m3, i_m4, i_nI, i_eq, i_lt, i_le, i_clamp, true_or, or_true, true_and, and_true, false_or, or_false, false_and, and_false] at h3
      refine ok_vg (vin_of (by first | omega | ((try simp (disch := decide) only [i_add, i_sub, i_mul, i_0, i_1, i_m1, i_m2, i_m3, i_m4, i_nI, i_eq, i_lt, i_le, i_clamp, true_or, or_true, true_and, and_true, false_or, or_false, false_and, and_false]) <;> omega)) (by first | omega | ((try simp (disch := decide) only [i_add, i_sub, i_mul, i_0, i_1, i_m1, i_m2, i_m3, i_m4, i_nI, i_eq, i_lt, i_le, i_clamp, true_or, or_true, true_and, and_true, false_or, or_false, false_and, and_false]) <;> omega))) ?_
      refine ok_vlet fun u5 hy4 => ?_
      subst hy4
      refine ok_some ?_
      try dsimp only
      · first | exact cellOK_upd (by assumption) (by omega) (by omega) (by omega) | (exfalso; omega) | assumption
set_option maxHeartbeats 1000000 in
set_option maxRecDepth 20000 in
theorem LX4_start_3_sh_ok  (y_1 : Int32) (y_2 : Int32) (y_3 : Int32) (y_4 : Int32) (g0 : 0 ≤ y_1.toInt) (g1 : y_1.toInt ≤ 4)  : ∀ (n : Nat) (y_5 : Int32) (f_cells : (Nat → Int32)) (i0 : 0 ≤ y_5.toInt) (i1 : y_5.toInt ≤ 11) (i2 : cellOK f_cells (11 * y_1.toInt + y_5.toInt)) (im : 11 - y_5.toInt < (n : Int)), ok (LX4_start_3 y_1 y_2 y_3 y_4 n y_5 f_cells) (fun z => cellOK z (11 * y_1.toInt + 11)) := by
  try simp (disch := decide) only [i_add, i_sub, i_mul, i_0, i_1, i_m1, i_m2, i_m3, i_m4, i_nI, i_eq, i_lt, i_le, i_clamp, true_or, or_true, true_and, and_true, false_or, or_false, false_and, and_false] at g0
  try simp (disch := decide) only [i_add, i_sub, i_mul, i_0, i_1, i_m1, i_m2, i_m3, i_m4, i_nI, i_eq, i_lt, i_le, i_clamp, true_or, or_true, true_and, and_true, false_or, or_false, false_and, and_false] at g1
  intro n
  induction n with
  | zero =>
    intro y_5 f_cells i0 i1 i2 im
    exfalso
    first | omega | ((try simp (disch := decide) only [i_add, i_sub, i_mul, i_0, i_1, i_m1, i_m2, i_m3, i_m4, i_nI, i_eq, i_lt, i_le, i_clamp, true_or, or_true, true_and, and_true, false_or, or_false, false_and, and_false]) <;> omega)
  | succ n ih =>
    intro y_5 f_cells i0 i1 i2 im
    rw [LX4_start_3]
    try simp (disch := decide) only [i_add, i_sub, i_mul, i_0, i_1, i_m1, i_m2, i_m3, i_m4, i_nI, i_eq, i_lt, i_le, i_clamp, true_or, or_true, true_and, and_true, false_or, or_false, false_and, and_false] at i0
    try simp (disch := decide) only [i_add, i_sub, i_mul, i_0, i_1, i_m1, i_m2, i_m3, i_m4, i_nI, i_eq, i_lt, i_le, i_clamp, true_or, or_true, true_and, and_true, false_or, or_false, false_and, and_false] at i1
    try simp (disch := decide) only [i_add, i_sub, i_mul, i_0, i_1, i_m1, i_m2, i_m3, i_m4, i_nI, i_eq, i_lt, i_le, i_clamp, true_or, or_true, true_and, and_true, false_or, or_false, false_and, and_false] at im
    refine ok_vi (fun h1 => ?_) (fun h1 => ?_)
    · try simp (disch := decide) only [i_add, i_sub, i_mul, i_0, i_1, i_m1, i_m2, i_m3, i_m4, i_nI, i_eq, i_lt, i_le, i_clamp, true_or, or_true, true_and, and_true, false_or, or_false, false_and, and_false] at h1
      refine ok_vb (sX4_set_sh_ok (11 * y_1.toInt + 11) (11 * y_1.toInt + 11) _ _ _ _ (by first | exact cellOK_mono (by assumption) (by first | omega | ((try simp (disch := decide) only [i_add, i_sub, i_mul, i_0, i_1, i_m1, i_m2, i_m3, i_m4, i_nI, i_eq, i_lt, i_le, i_clamp, true_or, or_true, true_and, and_true, false_or, or_false, false_and, and_false]) <;> omega)) | assumption) (by first | omega | ((try simp (disch := decide) only [i_add, i_sub, i_mul, i_0, i_1, i_m1, i_m2, i_m3, i_m4, i_nI, i_eq, i_lt, i_le, i_clamp, true_or, or_true, true_and, and_true, false_or, or_false, false_and, and_false]) <;> omega)) (by first | omega | ((try simp (disch := decide) only [i_add, i_sub, i_mul, i_0, i_1, i_m1, i_m2, i_m3, i_m4, i_nI, i_eq, i_lt, i_le, i_clamp, true_or, or_true, true_and, and_true, false_or, or_false, false_and, and_false]) <;> omega)) (by first | omega | ((try simp (disch := decide) only [i_add, i_sub, i_mul, i_0, i_1, i_m1, i_m2, i_m3, i_m4, i_nI, i_eq, i_lt, i_le, i_clamp, true_or, or_true, true_and, and_true, false_or, or_false, false_and, and_false]) <;> omega)) (by first | omega | ((try simp (disch := decide) only [i_add, i_sub, i_mul, i_0, i_1, i_m1, i_m2, i_m3, i_m4, i_nI, i_eq, i_lt, i_le, i_clamp, true_or, or_true, true_and, and_true, false_or, or_false, false_and, and_false]) <;> omega)) (by first | omega | ((try simp (disch := decide) only [i_add, i_sub, i_mul, i_0, i_1, i_m1, i_m2, i_m3, i_m4, i_nI, i_eq, i_lt, i_le, i_clamp, true_or, or_true, true_and, and_true, false_or, or_false, false_and, and_false]) <;> omega)) (by first | omega | ((try simp (disch := decide) only [i_add, i_sub, i_mul, i_0, i_1, i_m1, i_m2, i_m3, i_m4, i_nI, i_eq, i_lt, i_le, i_clamp, true_or, or_true, true_and, and_true, false_or, or_false, false_and, and_false]) <;> omega))) fun z2 hz2 => ?_
      try simp (disch := decide) only [i_add, i_sub, i_mul, i_0, i_1, i_m1, i_m2, i_m3, i_m4, i_nI, i_eq, i_lt, i_le, i_clamp, true_or, or_true, true_and, and_true, false_or, or_false, false_and, and_false] at hz2
      refine ok_vb (sX4_set_sh_ok (11 * y_1.toInt + 11) (11 * y_1.toInt + 11) _ _ _ _ (by first | exact cellOK_mono (by assumption) (by first | omega | ((try simp (disch := decide) only [i_add, i_sub, i_mul, i_0, i_1, i_m1, i_m2, i_m3, i_m4, i_nI, i_eq, i_lt, i_le, i_clamp, true_or, or_true, true_and, and_true, false_or, or_false, false_and, and_false]) <;> omega)) | assumption) (by first | omega | ((try simp (disch := decide) only [i_add, i_sub, i_mul, i_0, i_1, i_m1, i_m2, i_m3, i_m4, i_nI, i_eq, i_lt, i_le, i_clamp, true_or, or_true, true_and, and_true, false_or, or_false, false_and, and_false]) <;> omega)) (by first | omega | ((try simp (disch := decide) only [i_add, i_sub, i_mul, i_0, i_1, i_m1, i_m2, i_m3, i_m4, i_nI, i_eq, i_lt, i_le, i_clamp, true_or, or_true, true_and, and_true, false_or, or_false, false_and, and_false]) <;> omega)) (by first | omega | ((try simp (disch := decide) only [i_add, i_sub, i_mul, i_0, i_1, i_m1, i_m2, i_m3, i_m4, i_nI, i_eq, i_lt, i_le, i_clamp, true_or, or_true, true_and, and_true, false_or, or_false, false_and, and_false]) <;> omega)) (by first | omega | ((try simp (disch := decide) only [i_add, i_sub, i_mul, i_0, i_1, i_m1, i_m2, i_m3, i_m4, i_nI, i_eq, i_lt, i_le, i_clamp, true_or, or_true, true_and, and_true, false_or, or_false, false_and, and_false]) <;> omega)) (by first | omega | ((try simp (disch := decide) only [i_add, i_sub, i_mul, i_0, i_1, i_m1, i_m2, i_m3, i_m4, i_nI, i_eq, i_lt, i_le, i_clamp, true_or, or_true, true_and, and_true, false_or, or_false, false_and, and_false]) <;> omega)) (by first | omega | ((try simp (disch := decide) only [i_add, i_sub, i_mul, i_0, i_1, i_m1, i_m2, i_m3, i_m4, i_nI, i_eq, i_lt, i_le, i_clamp, true_or, or_true, true_and, and_true, false_or, or_false, false_and, and_false]) <;> omega))) fun z3 hz3 => ?_
      try simp (disch := decide) only [i_add, i_sub, i_mul, i_0, i_1, i_m1, i_m2, i_m3, i_m4, i_nI, i_eq, i_lt, i_le, i_clamp, true_or, or_true, true_and, and_true, false_or, or_false, false_and, and_false] at hz3
      refine ok_vb (sX4_set_sh_ok (11 * y_1.toInt + 11) (11 * y_1.toInt + 11) _ _ _ _ (by first | exact cellOK_mono (by assumption) (by first | omega | ((try simp (disch := decide) only [i_add, i_sub, i_mul, i_0, i_1, i_m1, i_m2, i_m3, i_m4, i_nI, i_eq, i_lt, i_le, i_clamp, true_or, or_true, true_and, and_true, false_or, or_false, false_and, and_false]) <;> omega)) | assumption) (by first | omega | ((try simp (disch := decide) only [i_add, i_sub, i_mul, i_0, i_1, i_m1, i_m2, i_m3, i_m4, i_nI, i_eq, i_lt, i_le, i_clamp, true_or, or_true, true_and, and_true, false_or, or_false, false_and, and_false]) <;> omega)) (by first | omega | ((try simp (disch := decide) only [i_add, i_sub, i_mul, i_0, i_1, i_m1, i_m2, i_m3, i_m4, i_nI, i_eq, i_lt, i_le, i_clamp, true_or, or_true, true_and, and_true, false_or, or_false, false_and, and_false]) <;> omega)) (by first | omega | ((try simp (disch := decide) only [i_add, i_sub, i_mul, i_0, i_1, i_m1, i_m2, i_m3, i_m4, i_nI, i_eq, i_lt, i_le, i_clamp, true_or, or_true, true_and, and_true, false_or, or_false, false_and, and_false]) <;> omega)) (by first | omega | ((try simp (disch := decide) only [i_add, i_sub, i_mul, i_0, i_1, i_m1, i_m2, i_m3, i_m4, i_nI, i_eq, i_lt, i_le, i_clamp, true_or, or_true, true_and, and_true, false_or, or_false, false_and, and_false]) <;> omega)) (by first | omega | ((try simp (disch := decide) only [i_add, i_sub, i_mul, i_0, i_1, i_m1, i_m2, i_m3, i_m4, i_nI, i_eq, i_lt, i_le, i_clamp, true_or, or_true, true_and, and_true, false_or, or_false, false_and, and_false]) <;> omega)) (by first | omega | ((try simp (disch := decide) only [i_add, i_sub, i_mul, i_0, i_1, i_m1, i_m2, i_m3, i_m4, i_nI, i_eq, i_lt, i_le, i_clamp, true_or, or_true, true_and, and_true, false_or, or_false, false_and, and_false]) <;> omega))) fun z4 hz4 => ?_
      try simp (disch := decide) only [i_add, i_sub, i_mul, i_0, i_1, i_m1, i_m2, i_m3, i_m4, i_nI, i_eq, i_lt, i_le, i_clamp, true_or, or_true, true_and, and_true, false_or, or_false, false_and, and_false] at hz4
      refine ok_some ?_
      try dsimp only
      · first | exact cellOK_mono (by assumption) (by first | omega | ((try simp (disch := decide) only [i_add, i_sub, i_mul, i_0, i_1, i_m1, i_m2, i_m3, i_m4, i_nI, i_eq, i_lt, i_le, i_clamp, true_or, or_true, true_and, and_true, false_or, or_false, false_and, and_false]) <;> omega)) | assumption
    · try simp (disch := decide) only [i_add, i_sub, i_mul, i_0, i_1, i_m1, i_m2, i_m3, i_m4, i_nI, i_eq, i_lt, i_le, i_clamp, true_or, or_true, true_and, and_true, false_or, or_false, false_and, and_false] at h1
      refine ok_vb (sX4_set_sh_ok (11 * y_1.toInt + y_5.toInt) (11 * y_1.toInt + y_5.toInt + 1) _ _ _ _ (by first | exact cellOK_mono (by assumption) (by first | omega | ((try simp (disch := decide) only [i_add, i_sub, i_mul, i_0, i_1, i_m1, i_m2, i_m3, i_m4, i_nI, i_eq, i_lt, i_le, i_clamp, true_or, or_true, true_and, and_true, false_or, or_false, false_and, and_false]) <;> omega)) | assumption) (by first | omega | ((try simp (disch := decide) only [i_add, i_sub, i_mul, i_0, i_1, i_m1, i_m2, i_m3, i_m4, i_nI, i_eq, i_lt, i_le, i_clamp, true_or, or_true, true_and, and_true, false_or, or_false, false_and, and_false]) <;> omega)) (by first | omega | ((try simp (disch := decide) only [i_add, i_sub, i_mul, i_0, i_1, i_m1, i_m2, i_m3, i_m4, i_nI, i_eq, i_lt, i_le, i_clamp, true_or, or_true, true_and, and_true, false_or, or_false, false_and, and_false]) <;> omega)) (by first | omega | ((try simp (disch := decide) only [i_add, i_sub, i_mul, i_0, i_1, i_m1, i_m2, i_m3, i_m4, i_nI, i_eq, i_lt, i_le, i_clamp, true_or, or_true, true_and, and_true, false_or, or_false, false_and, and_false]) <;> omega)) (by first | omega | ((try simp (disch := decide) only [i_add, i_sub, i_mul, i_0, i_1, i_m1, i_m2, i_m3, i_m4, i_nI, i_eq, i_lt, i_le, i_clamp, true_or, or_true, true_and, and_true, false_or, or_false, false_and, and_false]) <;> omega)) (by first | omega | ((try simp (disch := decide) only [i_add, i_sub, i_mul, i_0, i_1, i_m1, i_m2, i_m3, i_m4, i_nI, i_eq, i_lt, i_le, i_clamp, true_or, or_true, true_and, and_true, false_or, or_false, false_and, and_false]) <;> omega)) (by first | omega | ((try simp (disch := decide) only [i_add, i_sub, i_mul, i_0, i_1, i_m1, i_m2, i_m3, i_m4, i_nI, i_eq, i_lt, i_le, i_clamp, true_or, or_true, true_and, and_true, false_or, or_false, false_and, and_false]) <;> omega))) fun z5 hz5 => ?_
      try simp (disch := decide) only [i_add, i_sub, i_mul, i_0, i_1, i_m1, i_m2, i_m3, i_m4, i_nI, i_eq, i_lt, i_le, i_clamp, true_or, or_true, true_and, and_true, false_or, or_false, false_and, and_false] at hz5
      refine ok_vlet fun y6 hy6 => ?_
      try simp (disch := decide) only [i_add, i_sub, i_mul, i_0, i_1, i_m1, i_m2, i_m3, i_m4, i_nI, i_eq, i_lt, i_le, i_clamp, true_or, or_true, true_and, and_true, false_or, or_false, false_and, and_false] at hy6
      exact ih _ _ (by first | omega | ((try simp (disch := decide) only [i_add, i_sub, i_mul, i_0, i_1, i_m1, i_m2, i_m3, i_m4, i_nI, i_eq, i_lt, i_le, i_clamp, true_or, or_true, true_and, and_true, false_or, or_false, false_and, and_false]) <;> omega)) (by first | omega | ((try simp (disch := decide) only [i_add, i_sub, i_mul, i_0, i_1, i_m1, i_m2, i_m3, i_m4, i_nI, i_eq, i_lt, i_le, i_clamp, true_or, or_true, true_and, and_true, false_or, or_false, false_and, and_false]) <;> omega)) (by first | exact cellOK_mono (by assumption) (by first | omega | ((try simp (disch := decide) only [i_add, i_sub, i_mul, i_0, i_1, i_m1, i_m2, i_m3, i_m4, i_nI, i_eq, i_lt, i_le, i_clamp, true_or, or_true, true_and, and_true, false_or, or_false, false_and, and_false]) <;> omega)) | assumption) (by first | omega | ((try simp (disch := decide) only [i_add, i_sub, i_mul, i_0, i_1, i_m1, i_m2, i_m3, i_m4, i_nI, i_eq, i_lt, i_le, i_clamp, true_or, or_true, true_and, and_true, false_or, or_false, false_and, and_false]) <;> omega))
set_option maxHeartbeats 1000000 in
set_option maxRecDepth 20000 in
theorem sX4_start_sh_ok  (f_cells : Nat → Int32) (x1 : Int32) (x2 : Int32) (x3 : Int32) (x4 : Int32) (g0 : 0 ≤ x1.toInt) (g1 : x1.toInt ≤ 4) (g2 : cellOK f_cells (11 * x1.toInt)) : ok (sX4_start f_cells x1 x2 x3 x4) (fun z => cellOK z (11 * x1.toInt + 11)) := by
  unfold sX4_start
  try simp (disch := decide) only [i_add, i_sub, i_mul, i_0, i_1, i_m1, i_m2, i_m3, i_m4, i_nI, i_eq, i_lt, i_le, i_clamp, true_or, or_true, true_and, and_true, false_or, or_false, false_and, and_false] at g0
  try simp (disch := decide) only [i_add, i_sub, i_mul, i_0, i_1, i_m1, i_m2, i_m3, i_m4, i_nI, i_eq, i_lt, i_le, i_clamp, true_or, or_true, true_and, and_true, false_or, or_false, false_and, and_false] at g1
  refine ok_mono (LX4_start_3_sh_ok  _ _ _ _ (by first | omega | ((try simp (disch := decide) only [i_add, i_sub, i_mul, i_0, i_1, i_m1, i_m2, i_m3, i_m4, i_nI, i_eq, i_lt, i_le, i_clamp, true_or, or_true, true_and, and_true, false_or, or_false, false_and, and_false]) <;> omega)) (by first | omega | ((try simp (disch := decide) only [i_add, i_sub, i_mul, i_0, i_1, i_m1, i_m2, i_m3, i_m4, i_nI, i_eq, i_lt, i_le, i_clamp, true_or, or_true, true_and, and_true, false_or, or_false, false_and, and_false]) <;> omega)) _ _ _ (by first | omega | ((try simp (disch := decide) only [i_add, i_sub, i_mul, i_0, i_1, i_m1, i_m2, i_m3, i_m4, i_nI, i_eq, i_lt, i_le, i_clamp, true_or, or_true, true_and, and_true, false_or, or_false, false_and, and_false]) <;> omega)) (by first | omega | ((try simp (disch := decide) only [i_add, i_sub, i_mul, i_0, i_1, i_m1, i_m2, i_m3, i_m4, i_nI, i_eq, i_lt, i_le, i_clamp, true_or, or_true, true_and, and_true, false_or, or_false, false_and, and_false]) <;> omega)) (by first | (refine cellOK_mono (by assumption) ?_; rw [i_nI _ (by decide)]; omega) | assumption) (by rw [vF_int]; first | omega | ((try simp (disch := decide) only [i_add, i_sub, i_mul, i_0, i_1, i_m1, i_m2, i_m3, i_m4, i_nI, i_eq, i_lt, i_le, i_clamp, true_or, or_true, true_and, and_true, false_or, or_false, false_and, and_false]) <;> omega))) fun zz2 hp1 => ?_
  try simp (disch := decide) only [i_add, i_sub, i_mul, i_0, i_1, i_m1, i_m2, i_m3, i_m4, i_nI, i_eq, i_lt, i_le, i_clamp, true_or, or_true, true_and, and_true, false_or, or_false, false_and, and_false] at hp1
  try dsimp only
  · first | (refine cellOK_mono (by assumption) ?_; rw [i_nI _ (by decide)]; omega) | assumption
set_option maxHeartbeats 1000000 in
set_option maxRecDepth 20000 in
theorem sX4_copyFrom_sh_ok (L : Int) (f_cells : Nat → Int32) (f_p1_cells : Nat → Int32) (g0 : cellOK f_p1_cells L) (g1 : L ≤ 55) : ok (sX4_copyFrom f_cells f_p1_cells) (fun z => cellOK z L) := by
  unfold sX4_copyFrom
  try simp (disch := decide) only [i_add, i_sub, i_mul, i_0, i_1, i_m1, i_m2, i_m3, i_m4, i_nI, i_eq, i_lt, i_le, i_clamp, true_or, or_true, true_and, and_true, false_or, or_false, false_and, and_false] at g1
  refine ok_vlet fun u1 hy1 => ?_
  subst hy1
  refine ok_some ?_
  try dsimp only
  · first | exact cellOK_cpy (by assumption) (by omega) | assumption
set_option maxHeartbeats 1000000 in
set_option maxRecDepth 20000 in
theorem sX4_payAndPass_sh_ok (L : Int) (f_cells : Nat → Int32) (x1 : Int32) (x2 : Int32) (g0 : cellOK f_cells L) (g1 : L ≤ 55) (g2 : 0 ≤ x1.toInt) (g3 : 11 * x1.toInt + 11 ≤ L) : ok (sX4_payAndPass f_cells x1 x2) (fun z => cellOK z L) := by
  unfold sX4_payAndPass
  try simp (disch := decide) only [i_add, i_sub, i_mul, i_0, i_1, i_m1, i_m2, i_m3, i_m4, i_nI, i_eq, i_lt, i_le, i_clamp, true_or, or_true, true_and, and_true, false_or, or_false, false_and, and_false] at g1
  try simp (disch := decide) only [i_add, i_sub, i_mul, i_0, i_1, i_m1, i_m2, i_m3, i_m4, i_nI, i_eq, i_lt, i_le, i_clamp, true_or, or_true, true_and, and_true, false_or, or_false, false_and, and_false] at g2
  try simp (disch := decide) only [i_add, i_sub, i_mul, i_0, i_1, i_m1, i_m2, i_m3, i_m4, i_nI, i_eq, i_lt, i_le, i_clamp, true_or, or_true, true_and, and_true, false_or, or_false, false_and, and_false] at g3
  refine ok_vb (sX4_cell_ok  _ _ _ ) fun z1 _ => ?_
  refine ok_vb (sX4_cell_ok  _ _ _ ) fun z2 _ => ?_
  refine ok_vb (sX4_set_sh_ok L L _ _ _ _ (by first | assumption) (by first | omega | ((try simp (disch := decide) only [i_add, i_sub, i_mul, i_0, i_1, i_m1, i_m2, i_m3, i_m4, i_nI, i_eq, i_lt, i_le, i_clamp, true_or, or_true, true_and, and_true, false_or, or_false, false_and, and_false]) <;> omega)) (by first | omega | ((try simp (disch := decide) only [i_add, i_sub, i_mul, i_0, i_1, i_m1, i_m2, i_m3, i_m4, i_nI, i_eq, i_lt, i_le, i_clamp, true_or, or_true, true_and, and_true, false_or, or_false, false_and, and_false]) <;> omega)) (by first | omega | ((try simp (disch := decide) only [i_add, i_sub, i_mul, i_0, i_1, i_m1, i_m2, i_m3, i_m4, i_nI, i_eq, i_lt, i_le, i_clamp, true_or, or_true, true_and, and_true, false_or, or_false, false_and, and_false]) <;> omega)) (by first | omega | ((try simp (disch := decide) only [i_add, i_sub, i_mul, i_0, i_1, i_m1, i_m2, i_m3, i_m4, i_nI, i_eq, i_lt, i_le, i_clamp, true_or, or_true, true_and, and_true, false_or, or_false, false_and, and_false]) <;> omega)) (by first | omega | ((try simp (disch := decide) only [i_add, i_sub, i_mul, i_0, i_1, i_m1, i_m2, i_m3, i_m4, i_nI, i_eq, i_lt, i_le, i_clamp, true_or, or_true, true_and, and_true, false_or, or_false, false_and, and_false]) <;> omega)) (by first | omega | ((try simp (disch := decide) only [i_add, i_sub, i_mul, i_0, i_1, i_m1, i_m2, i_m3, i_m4, i_nI, i_eq, i_lt, i_le, i_clamp, true_or, or_true, true_and, and_true, false_or, or_false, false_and, and_false]) <;> omega))) fun z3 hz1 => ?_
  try simp (disch := decide) only [i_add, i_sub, i_mul, i_0, i_1, i_m1, i_m2, i_m3, i_m4, i_nI, i_eq, i_lt, i_le, i_clamp, true_or, or_true, true_and, and_true, false_or, or_false, false_and, and_false] at hz1
  refine ok_vb (sX4_set_sh_ok L L _ _ _ _ (by first | assumption) (by first | omega | ((try simp (disch := decide) only [i_add, i_sub, i_mul, i_0, i_1, i_m1, i_m2, i_m3, i_m4, i_nI, i_eq, i_lt, i_le, i_clamp, true_or, or_true, true_and, and_true, false_or, or_false, false_and, and_false]) <;> omega)) (by first | omega | ((try simp (disch := decide) only [i_add, i_sub, i_mul, i_0, i_1, i_m1, i_m2, i_m3, i_m4, i_nI, i_eq, i_lt, i_le, i_clamp, true_or, or_true, true_and, and_true, false_or, or_false, false_and, and_false]) <;> omega)) (by first | omega | ((try simp (disch := decide) only [i_add, i_sub, i_mul, i_0, i_1, i_m1, i_m2, i_m3, i_m4, i_nI, i_eq, i_lt, i_le, i_clamp, true_or, or_true, true_and, and_true, false_or, or_false, false_and, and_false]) <;> omega)) (by first | omega | ((try simp (disch := decide) only [i_add, i_sub, i_mul, i_0, i_1, i_m1, i_m2, i_m3, i_m4, i_nI, i_eq, i_lt, i_le, i_clamp, true_or, or_true, true_and, and_true, false_or, or_false, false_and, and_false]) <;> omega)) (by first | omega | ((try simp (disch := decide) only [i_add, i_sub, i_mul, i_0, i_1, i_m1, i_m2, i_m3, i_m4, i_nI, i_eq, i_lt, i_le, i_clamp, true_or, or_true, true_and, and_true, false_or, or_false, false_and, and_false]) <;> omega)) (by first | omega | ((try simp (disch := decide) only [i_add, i_sub, i_mul, i_0, i_1, i_m1, i_m2, i_m3, i_m4, i_nI, i_eq, i_lt, i_le, i_clamp, true_or, or_true, true_and, and_true, false_or, or_false, false_and, and_false]) <;> omega))) fun z4 hz2 => ?_
  try simp (disch := decide) only [i_add, i_sub, i_mul, i_0, i_1, i_m1, i_m2, i_m3, i_m4, i_nI, i_eq, i_lt, i_le, i_clamp, true_or, or_true, true_and, and_true, false_or, or_false, false_and, and_false] at hz2
  refine ok_some ?_
  try dsimp only
  · first | assumption
set_option maxHeartbeats 1000000 in
set_option maxRecDepth 20000 in
theorem sX4_addSign_sh_ok (L : Int) (f_cells : Nat → Int32) (x1 : Int32) (x2 : Int32) (g0 : cellOK f_cells L) (g1 : L ≤ 55) (g2 : 0 ≤ x1.toInt) (g3 : 11 * x1.toInt + 11 ≤ L) : ok (sX4_addSign f_cells x1 x2) (fun z => cellOK z L) := by
  unfold sX4_addSign
  try simp (disch := decide) only [i_add, i_sub, i_mul, i_0, i_1, i_m1, i_m2, i_m3, i_m4, i_nI, i_eq, i_lt, i_le, i_clamp, true_or, or_true, true_and, and_true, false_or, or_false, false_and, and_false] at g1
  try simp (disch := decide) only [i_add, i_sub, i_mul, i_0, i_1, i_m1, i_m2, i_m3, i_m4, i_nI, i_eq, i_lt, i_le, i_clamp, true_or, or_true, true_and, and_true, false_or, or_false, false_and, and_false] at g2
  try simp (disch := decide) only [i_add, i_sub, i_mul, i_0, i_1, i_m1, i_m2, i_m3, i_m4, i_nI, i_eq, i_lt, i_le, i_clamp, true_or, or_true, true_and, and_true, false_or, or_false, false_and, and_false] at g3
  refine ok_vb (sX4_cell_sh_ok L _ _ _ (by first | assumption) (by first | omega | ((try simp (disch := decide) only [i_add, i_sub, i_mul, i_0, i_1, i_m1, i_m2, i_m3, i_m4, i_nI, i_eq, i_lt, i_le, i_clamp, true_or, or_true, true_and, and_true, false_or, or_false, false_and, and_false]) <;> omega)) (by first | omega | ((try simp (disch := decide) only [i_add, i_sub, i_mul, i_0, i_1, i_m1, i_m2, i_m3, i_m4, i_nI, i_eq, i_lt, i_le, i_clamp, true_or, or_true, true_and, and_true, false_or, or_false, false_and, and_false]) <;> omega)) (by first | omega | ((try simp (disch := decide) only [i_add, i_sub, i_mul, i_0, i_1, i_m1, i_m2, i_m3, i_m4, i_nI, i_eq, i_lt, i_le, i_clamp, true_or, or_true, true_and, and_true, false_or, or_false, false_and, and_false]) <;> omega)) (by first | omega | ((try simp (disch := decide) only [i_add, i_sub, i_mul, i_0, i_1, i_m1, i_m2, i_m3, i_m4, i_nI, i_eq, i_lt, i_le, i_clamp, true_or, or_true, true_and, and_true, false_or, or_false, false_and, and_false]) <;> omega))) fun z1 hz1 => ?_
  try simp (disch := decide) only [i_add, i_sub, i_mul, i_0, i_1, i_m1, i_m2, i_m3, i_m4, i_nI, i_eq, i_lt, i_le, i_clamp, true_or, or_true, true_and, and_true, false_or, or_false, false_and, and_false] at hz1
  obtain ⟨hz1_0, hz1_1⟩ := hz1
  refine ok_vi (fun h2 => ?_) (fun h2 => ?_)
  · try simp (disch := decide) only [i_add, i_sub, i_mul, i_0, i_1, i_m1, i_m2, i_m3, i_m4, i_nI, i_eq, i_lt, i_le, i_clamp, true_or, or_true, true_and, and_true, false_or, or_false, false_and, and_false] at h2
    refine ok_some ?_
    try dsimp only
    · first | assumption
  · try simp (disch := decide) only [i_add, i_sub, i_mul, i_0, i_1, i_m1, i_m2, i_m3, i_m4, i_nI, i_eq, i_lt, i_le, i_clamp, true_or, or_true, true_and, and_true, false_or, or_false, false_and, and_false] at h2
    refine ok_vb (sX4_set_sh_ok L L _ _ _ _ (by first | assumption) (by first | omega | ((try simp (disch := decide) only [i_add, i_sub, i_mul, i_0, i_1, i_m1, i_m2, i_m3, i_m4, i_nI, i_eq, i_lt, i_le, i_clamp, true_or, or_true, true_and, and_true, false_or, or_false, false_and, and_false]) <;> omega)) (by first | omega | ((try simp (disch := decide) only [i_add, i_sub, i_mul, i_0, i_1, i_m1, i_m2, i_m3, i_m4, i_nI, i_eq, i_lt, i_le, i_clamp, true_or, or_true, true_and, and_true, false_or, or_false, false_and, and_false]) <;> omega)) (by first | omega | ((try simp (disch := decide) only [i_add, i_sub, i_mul, i_0, i_1, i_m1, i_m2, i_m3, i_m4, i_nI, i_eq, i_lt, i_le, i_clamp, true_or, or_true, true_and, and_true, false_or, or_false, false_and, and_false]) <;> omega)) (by first | omega | ((try simp (disch := decide) only [i_add, i_sub, i_mul, i_0, i_1, i_m1, i_m2, i_m3, i_m4, i_nI, i_eq, i_lt, i_le, i_clamp, true_or, or_true, true_and, and_true, false_or, or_false, false_and, and_false]) <;> omega)) (by first | omega | ((try simp (disch := decide) only [i_add, i_sub, i_mul, i_0, i_1, i_m1, i_m2, i_m3, i_m4, i_nI, i_eq, i_lt, i_le, i_clamp, true_or, or_true, true_and, and_true, false_or, or_false, false_and, and_false]) <;> omega)) (by first | omega | ((try simp (disch := decide) only [i_add, i_sub, i_mul, i_0, i_1, i_m1, i_m2, i_m3, i_m4, i_nI, i_eq, i_lt, i_le, i_clamp, true_or, or_true, true_and, and_true, false_or, or_false, false_and, and_false]) <;> omega))) fun z3 hz3 => ?_
    try simp (disch := decide) only [i_add, i_sub, i_mul, i_0, i_1, i_m1, i_m2, i_m3, i_m4, i_nI, i_eq, i_lt, i_le, i_clamp, true_or, or_true, true_and, and_true, false_or, or_false, false_and, and_false] at hz3
    refine ok_vb (sX4_set_sh_ok L L _ _ _ _ (by first | assumption) (by first | omega | ((try simp (disch := decide) only [i_add, i_sub, i_mul, i_0, i_1, i_m1, i_m2, i_m3, i_m4, i_nI, i_eq, i_lt, i_le, i_clamp, true_or, or_true, true_and, and_true, false_or, or_false, false_and, and_false]) <;> omega)) (by first | omega | ((try simp (disch := decide) only [i_add, i_sub, i_mul, i_0, i_1, i_m1, i_m2, i_m3, i_m4, i_nI, i_eq, i_lt, i_le, i_clamp, true_or, or_true, true_and, and_true, false_or, or_false, false_and, and_false]) <;> omega)) (by first | omega | ((try simp (disch := decide) only [i_add, i_sub, i_mul, i_0, i_1, i_m1, i_m2, i_m3, i_m4, i_nI, i_eq, i_lt, i_le, i_clamp, true_or, or_true, true_and, and_true, false_or, or_false, false_and, and_false]) <;> omega)) (by first | omega | ((try simp (disch := decide) only [i_add, i_sub, i_mul, i_0, i_1, i_m1, i_m2, i_m3, i_m4, i_nI, i_eq, i_lt, i_le, i_clamp, true_or, or_true, true_and, and_true, false_or, or_false, false_and, and_false]) <;> omega)) (by first | omega | ((try simp (disch := decide) only [i_add, i_sub, i_mul, i_0, i_1, i_m1, i_m2, i_m3, i_m4, i_nI, i_eq, i_lt, i_le, i_clamp, true_or, or_true, true_and, and_true, false_or, or_false, false_and, and_false]) <;> omega)) (by first | omega | ((try simp (disch := decide) only [i_add, i_sub, i_mul, i_0, i_1, i_m1, i_m2, i_m3, i_m4, i_nI, i_eq, i_lt, i_le, i_clamp, true_or, or_true, true_and, and_true, false_or, or_false, false_and, and_false]) <;> omega))) fun z4 hz4 => ?_
    try simp (disch := decide) only [i_add, i_sub, i_mul, i_0, i_1, i_m1, i_m2, i_m3, i_m4, i_nI, i_eq, i_lt, i_le, i_clamp, true_or, or_true, true_and, and_true, false_or, or_false, false_and, and_false] at hz4
    refine ok_some ?_
    try dsimp only
    · first | assumption
set_option maxHeartbeats 1000000 in
set_option maxRecDepth 20000 in
theorem sX4_addWrongGuess_ok  (f_cells : Nat → Int32) (x1 : Int32) (x2 : Int32)  : ok (sX4_addWrongGuess f_cells x1 x2) (fun _ => True) := by
  unfold sX4_addWrongGuess
  refine ok_vb (sX4_cell_ok  _ _ _ ) fun z1 _ => ?_
  refine ok_vb (sX4_set_ok  _ _ _ _ ) fun z2 _ => ?_
  refine ok_vb (sX4_cell_ok  _ _ _ ) fun z3 _ => ?_
  refine ok_vb (sJ6_bitCount_0f7a4_ok  _ ) fun z4 _ => ?_
  refine ok_vi (fun h1 => ?_) (fun h1 => ?_)
  · try simp (disch := decide) only [i_add, i_sub, i_mul, i_0, i_1, i_m1, i_m2, i_m3, i_m4, i_nI, i_eq, i_lt, i_le, i_clamp, true_or, or_true, true_and, and_true, false_or, or_false, false_and, and_false] at h1
    exact ok_some trivial
  · try simp (disch := decide) only [i_add, i_sub, i_mul, i_0, i_1, i_m1, i_m2, i_m3, i_m4, i_nI, i_eq, i_lt, i_le, i_clamp, true_or, or_true, true_and, and_true, false_or, or_false, false_and, and_false] at h1
    refine ok_vb (sX4_set_ok  _ _ _ _ ) fun z6 _ => ?_
    exact ok_some trivial
set_option maxHeartbeats 1000000 in
set_option maxRecDepth 20000 in
theorem sX4_addWrongGuess_sh_ok (L : Int) (f_cells : Nat → Int32) (x1 : Int32) (x2 : Int32) (g0 : cellOK f_cells L) (g1 : L ≤ 55) (g2 : 0 ≤ x1.toInt) (g3 : 11 * x1.toInt + 11 ≤ L) : ok (sX4_addWrongGuess f_cells x1 x2) (fun z => cellOK z L) := by
  unfold sX4_addWrongGuess
  try simp (disch := decide) only [i_add, i_sub, i_mul, i_0, i_1, i_m1, i_m2, i_m3, i_m4, i_nI, i_eq, i_lt, i_le, i_clamp, true_or, or_true, true_and, and_true, false_or, or_false, false_and, and_false] at g1
  try simp (disch := decide) only [i_add, i_sub, i_mul, i_0, i_1, i_m1, i_m2, i_m3, i_m4, i_nI, i_eq, i_lt, i_le, i_clamp, true_or, or_true, true_and, and_true, false_or, or_false, false_and, and_false] at g2
  try simp (disch := decide) only [i_add, i_sub, i_mul, i_0, i_1, i_m1, i_m2, i_m3, i_m4, i_nI, i_eq, i_lt, i_le, i_clamp, true_or, or_true, true_and, and_true, false_or, or_false, false_and, and_false] at g3
  refine ok_vb (sX4_cell_ok  _ _ _ ) fun z1 _ => ?_
  refine ok_vb (sX4_set_sh_ok L L _ _ _ _ (by first | assumption) (by first | omega | ((try simp (disch := decide) only [i_add, i_sub, i_mul, i_0, i_1, i_m1, i_m2, i_m3, i_m4, i_nI, i_eq, i_lt, i_le, i_clamp, true_or, or_true, true_and, and_true, false_or, or_false, false_and, and_false]) <;> omega)) (by first | omega | ((try simp (disch := decide) only [i_add, i_sub, i_mul, i_0, i_1, i_m1, i_m2, i_m3, i_m4, i_nI, i_eq, i_lt, i_le, i_clamp, true_or, or_true, true_and, and_true, false_or, or_false, false_and, and_false]) <;> omega)) (by first | omega | ((try simp (disch := decide) only [i_add, i_sub, i_mul, i_0, i_1, i_m1, i_m2, i_m3, i_m4, i_nI, i_eq, i_lt, i_le, i_clamp, true_or, or_true, true_and, and_true, false_or, or_false, false_and, and_false]) <;> omega)) (by first | omega | ((try simp (disch := decide) only [i_add, i_sub, i_mul, i_0, i_1, i_m1, i_m2, i_m3, i_m4, i_nI, i_eq, i_lt, i_le, i_clamp, true_or, or_true, true_and, and_true, false_or, or_false, false_and, and_false]) <;> omega)) (by first | omega | ((try simp (disch := decide) only [i_add, i_sub, i_mul, i_0, i_1, i_m1, i_m2, i_m3, i_m4, i_nI, i_eq, i_lt, i_le, i_clamp, true_or, or_true, true_and, and_true, false_or, or_false, false_and, and_false]) <;> omega)) (by first | omega | ((try simp (disch := decide) only [i_add, i_sub, i_mul, i_0, i_1, i_m1, i_m2, i_m3, i_m4, i_nI, i_eq, i_lt, i_le, i_clamp, true_or, or_true, true_and, and_true, false_or, or_false, false_and, and_false]) <;> omega))) fun z2 hz1 => ?_
  try simp (disch := decide) only [i_add, i_sub, i_mul, i_0, i_1, i_m1, i_m2, i_m3, i_m4, i_nI, i_eq, i_lt, i_le, i_clamp, true_or, or_true, true_and, and_true, false_or, or_false, false_and, and_false] at hz1
  refine ok_vb (sX4_cell_ok  _ _ _ ) fun z3 _ => ?_
  refine ok_vb (sJ6_bitCount_0f7a4_ok  _ ) fun z4 _ => ?_
  refine ok_vi (fun h2 => ?_) (fun h2 => ?_)
  · try simp (disch := decide) only [i_add, i_sub, i_mul, i_0, i_1, i_m1, i_m2, i_m3, i_m4, i_nI, i_eq, i_lt, i_le, i_clamp, true_or, or_true, true_and, and_true, false_or, or_false, false_and, and_false] at h2
    refine ok_some ?_
    try dsimp only
    · first | assumption
  · try simp (disch := decide) only [i_add, i_sub, i_mul, i_0, i_1, i_m1, i_m2, i_m3, i_m4, i_nI, i_eq, i_lt, i_le, i_clamp, true_or, or_true, true_and, and_true, false_or, or_false, false_and, and_false] at h2
    refine ok_vb (sX4_set_sh_ok L L _ _ _ _ (by first | assumption) (by first | omega | ((try simp (disch := decide) only [i_add, i_sub, i_mul, i_0, i_1, i_m1, i_m2, i_m3, i_m4, i_nI, i_eq, i_lt, i_le, i_clamp, true_or, or_true, true_and, and_true, false_or, or_false, false_and, and_false]) <;> omega)) (by first | omega | ((try simp (disch := decide) only [i_add, i_sub, i_mul, i_0, i_1, i_m1, i_m2, i_m3, i_m4, i_nI, i_eq, i_lt, i_le, i_clamp, true_or, or_true, true_and, and_true, false_or, or_false, false_and, and_false]) <;> omega)) (by first | omega | ((try simp (disch := decide) only [i_add, i_sub, i_mul, i_0, i_1, i_m1, i_m2, i_m3, i_m4, i_nI, i_eq, i_lt, i_le, i_clamp, true_or, or_true, true_and, and_true, false_or, or_false, false_and, and_false]) <;> omega)) (by first | omega | ((try simp (disch := decide) only [i_add, i_sub, i_mul, i_0, i_1, i_m1, i_m2, i_m3, i_m4, i_nI, i_eq, i_lt, i_le, i_clamp, true_or, or_true, true_and, and_true, false_or, or_false, false_and, and_false]) <;> omega)) (by first | omega | ((try simp (disch := decide) only [i_add, i_sub, i_mul, i_0, i_1, i_m1, i_m2, i_m3, i_m4, i_nI, i_eq, i_lt, i_le, i_clamp, true_or, or_true, true_and, and_true, false_or, or_false, false_and, and_false]) <;> omega)) (by first | omega | ((try simp (disch := decide) only [i_add, i_sub, i_mul, i_0, i_1, i_m1, i_m2, i_m3, i_m4, i_nI, i_eq, i_lt, i_le, i_clamp, true_or, or_true, true_and, and_true, false_or, or_false, false_and, and_false]) <;> omega))) fun z6 hz3 => ?_
    try simp (disch := decide) only [i_add, i_sub, i_mul, i_0, i_1, i_m1, i_m2, i_m3, i_m4, i_nI, i_eq, i_lt, i_le, i_clamp, true_or, or_true, true_and, and_true, false_or, or_false, false_and, and_false] at hz3
    refine ok_some ?_
    try dsimp only
    · first | assumption
set_option maxHeartbeats 1000000 in
set_option maxRecDepth 20000 in
theorem sX8_showSign_ok  (f_board_forbiddenBits : Int32) (f_p1_cells : Nat → Int32) (x2 : Int32) (x3 : Int32)  : ok (sX8_showSign f_board_forbiddenBits f_p1_cells x2 x3) (fun _ => True) := by
  unfold sX8_showSign
  refine ok_vb (sX0_isForbidden_ok  _ _ ) fun z1 _ => ?_
  refine ok_vi (fun h1 => ?_) (fun h1 => ?_)
  · try simp (disch := decide) only [i_add, i_sub, i_mul, i_0, i_1, i_m1, i_m2, i_m3, i_m4, i_nI, i_eq, i_lt, i_le, i_clamp, true_or, or_true, true_and, and_true, false_or, or_false, false_and, and_false] at h1
    refine ok_vb (sX4_addSign_ok  _ _ _ ) fun z3 _ => ?_
    exact ok_some trivial
  · try simp (disch := decide) only [i_add, i_sub, i_mul, i_0, i_1, i_m1, i_m2, i_m3, i_m4, i_nI, i_eq, i_lt, i_le, i_clamp, true_or, or_true, true_and, and_true, false_or, or_false, false_and, and_false] at h1
    refine ok_vb (sX4_set_ok  _ _ _ _ ) fun z4 _ => ?_
    exact ok_some trivial
set_option maxHeartbeats 1000000 in
set_option maxRecDepth 20000 in
theorem sX8_guessWord_ok  (f_board_commons : Nat → Int32) (f_board_lengths : Nat → Int32) (f_board_parts : Nat → Int32) (f_board_likenesses : Nat → Int32) (f_board_wordCount : Int32) (f_board_habitTold : Int32) (f_board_priceTold : Int32) (f_p1_cells : Nat → Int32) (x2 : Int32) (g0 : f_board_wordCount.toInt ≤ 8) : ok (sX8_guessWord f_board_commons f_board_lengths f_board_parts f_board_likenesses f_board_wordCount f_board_habitTold f_board_priceTold f_p1_cells x2) (fun _ => True) := by
  unfold sX8_guessWord
  try simp (disch := decide) only [i_add, i_sub, i_mul, i_0, i_1, i_m1, i_m2, i_m3, i_m4, i_nI, i_eq, i_lt, i_le, i_clamp, true_or, or_true, true_and, and_true, false_or, or_false, false_and, and_false] at g0
  refine ok_vb (sX0_habit_ok  _ ) fun z1 _ => ?_
  refine ok_vb (sX0_heaviest_ok  _ _ _ _ _ _ _ _ _ (by first | omega | ((try simp (disch := decide) only [i_add, i_sub, i_mul, i_0, i_1, i_m1, i_m2, i_m3, i_m4, i_nI, i_eq, i_lt, i_le, i_clamp, true_or, or_true, true_and, and_true, false_or, or_false, false_and, and_false]) <;> omega))) fun z2 hz1 => ?_
  try simp (disch := decide) only [i_add, i_sub, i_mul, i_0, i_1, i_m1, i_m2, i_m3, i_m4, i_nI, i_eq, i_lt, i_le, i_clamp, true_or, or_true, true_and, and_true, false_or, or_false, false_and, and_false] at hz1
  refine ok_vi (fun h2 => ?_) (fun h2 => ?_)
  · try simp (disch := decide) only [i_add, i_sub, i_mul, i_0, i_1, i_m1, i_m2, i_m3, i_m4, i_nI, i_eq, i_lt, i_le, i_clamp, true_or, or_true, true_and, and_true, false_or, or_false, false_and, and_false] at h2
    refine ok_vb (sX4_set_ok  _ _ _ _ ) fun z13 _ => ?_
    exact ok_some trivial
  · try simp (disch := decide) only [i_add, i_sub, i_mul, i_0, i_1, i_m1, i_m2, i_m3, i_m4, i_nI, i_eq, i_lt, i_le, i_clamp, true_or, or_true, true_and, and_true, false_or, or_false, false_and, and_false] at h2
    refine ok_vb (sX4_cell_ok  _ _ _ ) fun z4 _ => ?_
    refine ok_vi (fun h3 => ?_) (fun h3 => ?_)
    · try simp (disch := decide) only [i_add, i_sub, i_mul, i_0, i_1, i_m1, i_m2, i_m3, i_m4, i_nI, i_eq, i_lt, i_le, i_clamp, true_or, or_true, true_and, and_true, false_or, or_false, false_and, and_false] at h3
      refine ok_vb (sX0_price_ok  _ ) fun z6 _ => ?_
      refine ok_vb (sX4_canPay_ok  _ _ _ _ ) fun z7 _ => ?_
      refine ok_vi (fun h4 => ?_) (fun h4 => ?_)
      · try simp (disch := decide) only [i_add, i_sub, i_mul, i_0, i_1, i_m1, i_m2, i_m3, i_m4, i_nI, i_eq, i_lt, i_le, i_clamp, true_or, or_true, true_and, and_true, false_or, or_false, false_and, and_false] at h4
        refine ok_vb (sX4_set_ok  _ _ _ _ ) fun z9 _ => ?_
        exact ok_some trivial
      · try simp (disch := decide) only [i_add, i_sub, i_mul, i_0, i_1, i_m1, i_m2, i_m3, i_m4, i_nI, i_eq, i_lt, i_le, i_clamp, true_or, or_true, true_and, and_true, false_or, or_false, false_and, and_false] at h4
        refine ok_vb (sX0_price_ok  _ ) fun z10 _ => ?_
        refine ok_vb (sX4_payAndPass_ok  _ _ _ ) fun z11 _ => ?_
        exact ok_some trivial
    · try simp (disch := decide) only [i_add, i_sub, i_mul, i_0, i_1, i_m1, i_m2, i_m3, i_m4, i_nI, i_eq, i_lt, i_le, i_clamp, true_or, or_true, true_and, and_true, false_or, or_false, false_and, and_false] at h3
      refine ok_vb (sX4_addWrongGuess_ok  _ _ _ ) fun z12 _ => ?_
      exact ok_some trivial
set_option maxHeartbeats 1000000 in
set_option maxRecDepth 20000 in
theorem sX8_showSign_sh_ok (L : Int) (f_board_forbiddenBits : Int32) (f_p1_cells : Nat → Int32) (x2 : Int32) (x3 : Int32) (g0 : cellOK f_p1_cells L) (g1 : L ≤ 55) (g2 : 0 ≤ x2.toInt) (g3 : 11 * x2.toInt + 11 ≤ L) : ok (sX8_showSign f_board_forbiddenBits f_p1_cells x2 x3) (fun z => cellOK z.2 L) := by
  unfold sX8_showSign
  try simp (disch := decide) only [i_add, i_sub, i_mul, i_0, i_1, i_m1, i_m2, i_m3, i_m4, i_nI, i_eq, i_lt, i_le, i_clamp, true_or, or_true, true_and, and_true, false_or, or_false, false_and, and_false] at g1
  try simp (disch := decide) only [i_add, i_sub, i_mul, i_0, i_1, i_m1, i_m2, i_m3, i_m4, i_nI, i_eq, i_lt, i_le, i_clamp, true_or, or_true, true_and, and_true, false_or, or_false, false_and, and_false] at g2
  try simp (disch := decide) only [i_add, i_sub, i_mul, i_0, i_1, i_m1, i_m2, i_m3, i_m4, i_nI, i_eq, i_lt, i_le, i_clamp, true_or, or_true, true_and, and_true, false_or, or_false, false_and, and_false] at g3
  refine ok_vb (sX0_isForbidden_ok  _ _ ) fun z1 _ => ?_
  refine ok_vi (fun h1 => ?_) (fun h1 => ?_)
  · try simp (disch := decide) only [i_add, i_sub, i_mul, i_0, i_1, i_m1, i_m2, i_m3, i_m4, i_nI, i_eq, i_lt, i_le, i_clamp, true_or, or_true, true_and, and_true, false_or, or_false, false_and, and_false] at h1
    refine ok_vb (sX4_addSign_sh_ok L _ _ _ (by first | assumption) (by first | omega | ((try simp (disch := decide) only [i_add, i_sub, i_mul, i_0, i_1, i_m1, i_m2, i_m3, i_m4, i_nI, i_eq, i_lt, i_le, i_clamp, true_or, or_true, true_and, and_true, false_or, or_false, false_and, and_false]) <;> omega)) (by first | omega | ((try simp (disch := decide) only [i_add, i_sub, i_mul, i_0, i_1, i_m1, i_m2, i_m3, i_m4, i_nI, i_eq, i_lt, i_le, i_clamp, true_or, or_true, true_and, and_true, false_or, or_false, false_and, and_false]) <;> omega)) (by first | omega | ((try simp (disch := decide) only [i_add, i_sub, i_mul, i_0, i_1, i_m1, i_m2, i_m3, i_m4, i_nI, i_eq, i_lt, i_le, i_clamp, true_or, or_true, true_and, and_true, false_or, or_false, false_and, and_false]) <;> omega))) fun z3 hz2 => ?_
    try simp (disch := decide) only [i_add, i_sub, i_mul, i_0, i_1, i_m1, i_m2, i_m3, i_m4, i_nI, i_eq, i_lt, i_le, i_clamp, true_or, or_true, true_and, and_true, false_or, or_false, false_and, and_false] at hz2
    refine ok_some ?_
    try dsimp only
    · first | assumption
  · try simp (disch := decide) only [i_add, i_sub, i_mul, i_0, i_1, i_m1, i_m2, i_m3, i_m4, i_nI, i_eq, i_lt, i_le, i_clamp, true_or, or_true, true_and, and_true, false_or, or_false, false_and, and_false] at h1
    refine ok_vb (sX4_set_sh_ok L L _ _ _ _ (by first | assumption) (by first | omega | ((try simp (disch := decide) only [i_add, i_sub, i_mul, i_0, i_1, i_m1, i_m2, i_m3, i_m4, i_nI, i_eq, i_lt, i_le, i_clamp, true_or, or_true, true_and, and_true, false_or, or_false, false_and, and_false]) <;> omega)) (by first | omega | ((try simp (disch := decide) only [i_add, i_sub, i_mul, i_0, i_1, i_m1, i_m2, i_m3, i_m4, i_nI, i_eq, i_lt, i_le, i_clamp, true_or, or_true, true_and, and_true, false_or, or_false, false_and, and_false]) <;> omega)) (by first | omega | ((try simp (disch := decide) only [i_add, i_sub, i_mul, i_0, i_1, i_m1, i_m2, i_m3, i_m4, i_nI, i_eq, i_lt, i_le, i_clamp, true_or, or_true, true_and, and_true, false_or, or_false, false_and, and_false]) <;> omega)) (by first | omega | ((try simp (disch := decide) only [i_add, i_sub, i_mul, i_0, i_1, i_m1, i_m2, i_m3, i_m4, i_nI, i_eq, i_lt, i_le, i_clamp, true_or, or_true, true_and, and_true, false_or, or_false, false_and, and_false]) <;> omega)) (by first | omega | ((try simp (disch := decide) only [i_add, i_sub, i_mul, i_0, i_1, i_m1, i_m2, i_m3, i_m4, i_nI, i_eq, i_lt, i_le, i_clamp, true_or, or_true, true_and, and_true, false_or, or_false, false_and, and_false]) <;> omega)) (by first | omega | ((try simp (disch := decide) only [i_add, i_sub, i_mul, i_0, i_1, i_m1, i_m2, i_m3, i_m4, i_nI, i_eq, i_lt, i_le, i_clamp, true_or, or_true, true_and, and_true, false_or, or_false, false_and, and_false]) <;> omega))) fun z4 hz3 => ?_
    try simp (disch := decide) only [i_add, i_sub, i_mul, i_0, i_1, i_m1, i_m2, i_m3, i_m4, i_nI, i_eq, i_lt, i_le, i_clamp, true_or, or_true, true_and, and_true, false_or, or_false, false_and, and_false] at hz3
    refine ok_some ?_
    try dsimp only
    · first | assumption
set_option maxHeartbeats 1000000 in
set_option maxRecDepth 20000 in
theorem sX8_guessWord_sh_ok (L : Int) (f_board_commons : Nat → Int32) (f_board_lengths : Nat → Int32) (f_board_parts : Nat → Int32) (f_board_likenesses : Nat → Int32) (f_board_wordCount : Int32) (f_board_habitTold : Int32) (f_board_priceTold : Int32) (f_p1_cells : Nat → Int32) (x2 : Int32) (g0 : f_board_wordCount.toInt ≤ 8) (g1 : cellOK f_p1_cells L) (g2 : L ≤ 55) (g3 : 0 ≤ x2.toInt) (g4 : 11 * x2.toInt + 11 ≤ L) : ok (sX8_guessWord f_board_commons f_board_lengths f_board_parts f_board_likenesses f_board_wordCount f_board_habitTold f_board_priceTold f_p1_cells x2) (fun z => cellOK z.2 L) := by
  unfold sX8_guessWord
  try simp (disch := decide) only [i_add, i_sub, i_mul, i_0, i_1, i_m1, i_m2, i_m3, i_m4, i_nI, i_eq, i_lt, i_le, i_clamp, true_or, or_true, true_and, and_true, false_or, or_false, false_and, and_false] at g0
  try simp (disch := decide) only [i_add, i_sub, i_mul, i_0, i_1, i_m1, i_m2, i_m3, i_m4, i_nI, i_eq, i_lt, i_le, i_clamp, true_or, or_true, true_and, and_true, false_or, or_false, false_and, and_false] at g2
  try simp (disch := decide) only [i_add, i_sub, i_mul, i_0, i_1, i_m1, i_m2, i_m3, i_m4, i_nI, i_eq, i_lt, i_le, i_clamp, true_or, or_true, true_and, and_true, false_or, or_false, false_and, and_false] at g3
  try simp (disch := decide) only [i_add, i_sub, i_mul, i_0, i_1, i_m1, i_m2, i_m3, i_m4, i_nI, i_eq, i_lt, i_le, i_clamp, true_or, or_true, true_and, and_true, false_or, or_false, false_and, and_false] at g4
  refine ok_vb (sX0_habit_ok  _ ) fun z1 _ => ?_
  refine ok_vb (sX0_heaviest_ok  _ _ _ _ _ _ _ _ _ (by first | omega | ((try simp (disch := decide) only [i_add, i_sub, i_mul, i_0, i_1, i_m1, i_m2, i_m3, i_m4, i_nI, i_eq, i_lt, i_le, i_clamp, true_or, or_true, true_and, and_true, false_or, or_false, false_and, and_false]) <;> omega))) fun z2 hz1 => ?_
  try simp (disch := decide) only [i_add, i_sub, i_mul, i_0, i_1, i_m1, i_m2, i_m3, i_m4, i_nI, i_eq, i_lt, i_le, i_clamp, true_or, or_true, true_and, and_true, false_or, or_false, false_and, and_false] at hz1
  refine ok_vi (fun h2 => ?_) (fun h2 => ?_)
  · try simp (disch := decide) only [i_add, i_sub, i_mul, i_0, i_1, i_m1, i_m2, i_m3, i_m4, i_nI, i_eq, i_lt, i_le, i_clamp, true_or, or_true, true_and, and_true, false_or, or_false, false_and, and_false] at h2
    refine ok_vb (sX4_set_sh_ok L L _ _ _ _ (by first | assumption) (by first | omega | ((try simp (disch := decide) only [i_add, i_sub, i_mul, i_0, i_1, i_m1, i_m2, i_m3, i_m4, i_nI, i_eq, i_lt, i_le, i_clamp, true_or, or_true, true_and, and_true, false_or, or_false, false_and, and_false]) <;> omega)) (by first | omega | ((try simp (disch := decide) only [i_add, i_sub, i_mul, i_0, i_1, i_m1, i_m2, i_m3, i_m4, i_nI, i_eq, i_lt, i_le, i_clamp, true_or, or_true, true_and, and_true, false_or, or_false, false_and, and_false]) <;> omega)) (by first | omega | ((try simp (disch := decide) only [i_add, i_sub, i_mul, i_0, i_1, i_m1, i_m2, i_m3, i_m4, i_nI, i_eq, i_lt, i_le, i_clamp, true_or, or_true, true_and, and_true, false_or, or_false, false_and, and_false]) <;> omega)) (by first | omega | ((try simp (disch := decide) only [i_add, i_sub, i_mul, i_0, i_1, i_m1, i_m2, i_m3, i_m4, i_nI, i_eq, i_lt, i_le, i_clamp, true_or, or_true, true_and, and_true, false_or, or_false, false_and, and_false]) <;> omega)) (by first | omega | ((try simp (disch := decide) only [i_add, i_sub, i_mul, i_0, i_1, i_m1, i_m2, i_m3, i_m4, i_nI, i_eq, i_lt, i_le, i_clamp, true_or, or_true, true_and, and_true, false_or, or_false, false_and, and_false]) <;> omega)) (by first | omega | ((try simp (disch := decide) only [i_add, i_sub, i_mul, i_0, i_1, i_m1, i_m2, i_m3, i_m4, i_nI, i_eq, i_lt, i_le, i_clamp, true_or, or_true, true_and, and_true, false_or, or_false, false_and, and_false]) <;> omega))) fun z13 hz3 => ?_
    try simp (disch := decide) only [i_add, i_sub, i_mul, i_0, i_1, i_m1, i_m2, i_m3, i_m4, i_nI, i_eq, i_lt, i_le, i_clamp, true_or, or_true, true_and, and_true, false_or, or_false, false_and, and_false] at hz3
    refine ok_some ?_
    try dsimp only
    · first | assumption
  · try simp (disch := decide) only [i_add, i_sub, i_mul, i_0, i_1, i_m1, i_m2, i_m3, i_m4, i_nI, i_eq, i_lt, i_le, i_clamp, true_or, or_true, true_and, and_true, false_or, or_false, false_and, and_false] at h2
    refine ok_vb (sX4_cell_ok  _ _ _ ) fun z4 _ => ?_
    refine ok_vi (fun h4 => ?_) (fun h4 => ?_)
    · try simp (disch := decide) only [i_add, i_sub, i_mul, i_0, i_1, i_m1, i_m2, i_m3, i_m4, i_nI, i_eq, i_lt, i_le, i_clamp, true_or, or_true, true_and, and_true, false_or, or_false, false_and, and_false] at h4
      refine ok_vb (sX0_price_ok  _ ) fun z6 _ => ?_
      refine ok_vb (sX4_canPay_ok  _ _ _ _ ) fun z7 _ => ?_
      refine ok_vi (fun h5 => ?_) (fun h5 => ?_)
      · try simp (disch := decide) only [i_add, i_sub, i_mul, i_0, i_1, i_m1, i_m2, i_m3, i_m4, i_nI, i_eq, i_lt, i_le, i_clamp, true_or, or_true, true_and, and_true, false_or, or_false, false_and, and_false] at h5
        refine ok_vb (sX4_set_sh_ok L L _ _ _ _ (by first | assumption) (by first | omega | ((try simp (disch := decide) only [i_add, i_sub, i_mul, i_0, i_1, i_m1, i_m2, i_m3, i_m4, i_nI, i_eq, i_lt, i_le, i_clamp, true_or, or_true, true_and, and_true, false_or, or_false, false_and, and_false]) <;> omega)) (by first | omega | ((try simp (disch := decide) only [i_add, i_sub, i_mul, i_0, i_1, i_m1, i_m2, i_m3, i_m4, i_nI, i_eq, i_lt, i_le, i_clamp, true_or, or_true, true_and, and_true, false_or, or_false, false_and, and_false]) <;> omega)) (by first | omega | ((try simp (disch := decide) only [i_add, i_sub, i_mul, i_0, i_1, i_m1, i_m2, i_m3, i_m4, i_nI, i_eq, i_lt, i_le, i_clamp, true_or, or_true, true_and, and_true, false_or, or_false, false_and, and_false]) <;> omega)) (by first | omega | ((try simp (disch := decide) only [i_add, i_sub, i_mul, i_0, i_1, i_m1, i_m2, i_m3, i_m4, i_nI, i_eq, i_lt, i_le, i_clamp, true_or, or_true, true_and, and_true, false_or, or_false, false_and, and_false]) <;> omega)) (by first | omega | ((try simp (disch := decide) only [i_add, i_sub, i_mul, i_0, i_1, i_m1, i_m2, i_m3, i_m4, i_nI, i_eq, i_lt, i_le, i_clamp, true_or, or_true, true_and, and_true, false_or, or_false, false_and, and_false]) <;> omega)) (by first | omega | ((try simp (disch := decide) only [i_add, i_sub, i_mul, i_0, i_1, i_m1, i_m2, i_m3, i_m4, i_nI, i_eq, i_lt, i_le, i_clamp, true_or, or_true, true_and, and_true, false_or, or_false, false_and, and_false]) <;> omega))) fun z9 hz6 => ?_
        try simp (disch := decide) only [i_add, i_sub, i_mul, i_0, i_1, i_m1, i_m2, i_m3, i_m4, i_nI, i_eq, i_lt, i_le, i_clamp, true_or, or_true, true_and, and_true, false_or, or_false, false_and, and_false] at hz6
        refine ok_some ?_
        try dsimp only
        · first | assumption
      · try simp (disch := decide) only [i_add, i_sub, i_mul, i_0, i_1, i_m1, i_m2, i_m3, i_m4, i_nI, i_eq, i_lt, i_le, i_clamp, true_or, or_true, true_and, and_true, false_or, or_false, false_and, and_false] at h5
        refine ok_vb (sX0_price_ok  _ ) fun z10 _ => ?_
        refine ok_vb (sX4_payAndPass_sh_ok L _ _ _ (by first | assumption) (by first | omega | ((try simp (disch := decide) only [i_add, i_sub, i_mul, i_0, i_1, i_m1, i_m2, i_m3, i_m4, i_nI, i_eq, i_lt, i_le, i_clamp, true_or, or_true, true_and, and_true, false_or, or_false, false_and, and_false]) <;> omega)) (by first | omega | ((try simp (disch := decide) only [i_add, i_sub, i_mul, i_0, i_1, i_m1, i_m2, i_m3, i_m4, i_nI, i_eq, i_lt, i_le, i_clamp, true_or, or_true, true_and, and_true, false_or, or_false, false_and, and_false]) <;> omega)) (by first | omega | ((try simp (disch := decide) only [i_add, i_sub, i_mul, i_0, i_1, i_m1, i_m2, i_m3, i_m4, i_nI, i_eq, i_lt, i_le, i_clamp, true_or, or_true, true_and, and_true, false_or, or_false, false_and, and_false]) <;> omega))) fun z11 hz7 => ?_
        try simp (disch := decide) only [i_add, i_sub, i_mul, i_0, i_1, i_m1, i_m2, i_m3, i_m4, i_nI, i_eq, i_lt, i_le, i_clamp, true_or, or_true, true_and, and_true, false_or, or_false, false_and, and_false] at hz7
        refine ok_some ?_
        try dsimp only
        · first | assumption
    · try simp (disch := decide) only [i_add, i_sub, i_mul, i_0, i_1, i_m1, i_m2, i_m3, i_m4, i_nI, i_eq, i_lt, i_le, i_clamp, true_or, or_true, true_and, and_true, false_or, or_false, false_and, and_false] at h4
      refine ok_vb (sX4_addWrongGuess_sh_ok L _ _ _ (by first | assumption) (by first | omega | ((try simp (disch := decide) only [i_add, i_sub, i_mul, i_0, i_1, i_m1, i_m2, i_m3, i_m4, i_nI, i_eq, i_lt, i_le, i_clamp, true_or, or_true, true_and, and_true, false_or, or_false, false_and, and_false]) <;> omega)) (by first | omega | ((try simp (disch := decide) only [i_add, i_sub, i_mul, i_0, i_1, i_m1, i_m2, i_m3, i_m4, i_nI, i_eq, i_lt, i_le, i_clamp, true_or, or_true, true_and, and_true, false_or, or_false, false_and, and_false]) <;> omega)) (by first | omega | ((try simp (disch := decide) only [i_add, i_sub, i_mul, i_0, i_1, i_m1, i_m2, i_m3, i_m4, i_nI, i_eq, i_lt, i_le, i_clamp, true_or, or_true, true_and, and_true, false_or, or_false, false_and, and_false]) <;> omega))) fun z12 hz8 => ?_
      try simp (disch := decide) only [i_add, i_sub, i_mul, i_0, i_1, i_m1, i_m2, i_m3, i_m4, i_nI, i_eq, i_lt, i_le, i_clamp, true_or, or_true, true_and, and_true, false_or, or_false, false_and, and_false] at hz8
      refine ok_some ?_
      try dsimp only
      · first | assumption

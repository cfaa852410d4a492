/-! cells, by class -/
abbrev oX0 (h : Nat) (q0 : Nat) (q1 : Nat) (q2 : Nat) (q3 : Nat) (q4 : Int32) (q5 : Int32) (q6 : Int32) (q7 : Int32) (q8 : Int32) (q9 : Int32) : Nat × va_E := (h, .inr (0, [.ref q0, .ref q1, .ref q2, .ref q3, .int q4, .int q5, .int q6, .int q7, .int q8, .int q9]))
abbrev oX1 (h : Nat) (q0 : Nat) (q1 : Nat) (q2 : Nat) (q3 : Nat) (q4 : Nat) (q5 : Int32) : Nat × va_E := (h, .inr (1, [.ref q0, .ref q1, .ref q2, .ref q3, .ref q4, .int q5]))
abbrev oX2 (h : Nat) (q0 : Nat) (q1 : Nat) (q2 : Int32) : Nat × va_E := (h, .inr (2, [.ref q0, .ref q1, .int q2]))
abbrev oX3 (h : Nat) (q0 : Nat) (q1 : Int32) (q2 : Int32) : Nat × va_E := (h, .inr (3, [.ref q0, .int q1, .int q2]))
abbrev oX4 (h : Nat) (q0 : Nat) : Nat × va_E := (h, .inr (4, [.ref q0]))
abbrev oX5 (h : Nat) (q0 : Nat) (q1 : Nat) (q2 : Nat) (q3 : Nat) (q4 : Nat) (q5 : Nat) (q6 : Int32) (q7 : Int32) (q8 : Int32) : Nat × va_E := (h, .inr (5, [.ref q0, .ref q1, .ref q2, .ref q3, .ref q4, .ref q5, .int q6, .int q7, .int q8]))
abbrev oX6 (h : Nat) (q0 : Nat) (q1 : Nat) (q2 : Int32) : Nat × va_E := (h, .inr (6, [.ref q0, .ref q1, .int q2]))
abbrev oX7 (h : Nat) (q0 : Nat) (q1 : Int32) (q2 : Int32) : Nat × va_E := (h, .inr (7, [.ref q0, .int q1, .int q2]))
abbrev oX8 (h : Nat) (q0 : Nat) (q1 : Int32) (q2 : Nat) (q3 : Nat) (q4 : Nat) (q5 : Nat) (q6 : Nat) (q7 : Nat) (q8 : Nat) (q9 : Nat) (q10 : Nat) (q11 : Nat) (q12 : Nat) : Nat × va_E := (h, .inr (8, [.ref q0, .int q1, .ref q2, .ref q3, .ref q4, .ref q5, .ref q6, .ref q7, .ref q8, .ref q9, .ref q10, .ref q11, .ref q12]))
abbrev oX9 (h : Nat) (q0 : Nat) (q1 : Nat) (q2 : Nat) (q3 : Nat) (q4 : Nat) (q5 : Int32) (q6 : Nat) (q7 : Int32) (q8 : Nat) (q9 : Int32) (q10 : Nat) (q11 : Int32) (q12 : Int32) (q13 : Int32) (q14 : Nat) (q15 : Nat) (q16 : Int64) (q17 : Int64) (q18 : Int32) (q19 : Nat) (q20 : Nat) (q21 : Nat) (q22 : Nat) (q23 : Nat) (q24 : Nat) : Nat × va_E := (h, .inr (9, [.ref q0, .ref q1, .ref q2, .ref q3, .ref q4, .int q5, .ref q6, .int q7, .ref q8, .int q9, .ref q10, .int q11, .int q12, .int q13, .ref q14, .ref q15, .long q16, .long q17, .int q18, .ref q19, .ref q20, .ref q21, .ref q22, .ref q23, .ref q24]))
abbrev aI (cI : ClassId) (a n : Nat) (f : Nat → Int32) : Nat × va_E := (a, .inl (cI, n, .inl f))
theorem nn_ok {β : Type} {z : β} {P : Prop} (h : (none : Option β) = some z) : P := by cases h
theorem g_topi {cI : ClassId} {X : xT} {nL k n : Nat} {ws : va_W} {lv : List (Nat × Value)} {pc : Nat} {rest : List Value} {x y : Int32} (h : y = x) (kk : gg cI X nL k n ws lv pc (.int y :: rest)) : gg cI X nL k n ws lv pc (.int x :: rest) := h ▸ kk
theorem g_topl {cI : ClassId} {X : xT} {nL k n : Nat} {ws : va_W} {lv : List (Nat × Value)} {pc : Nat} {rest : List Value} {x y : Int64} (h : y = x) (kk : gg cI X nL k n ws lv pc (.long y :: rest)) : gg cI X nL k n ws lv pc (.long x :: rest) := h ▸ kk
theorem tsw_out {x : Int32} (n : Nat) (h : ∀ k, k ≤ n → ¬ x = Int32.ofNat k) (hn : n < 1000 := by decide) : x.toInt < 0 ∨ (n : Int) < x.toInt := by
  by_cases h0 : x.toInt < 0
  · exact Or.inl h0
  · refine Or.inr (Int.not_le.mp fun h1 => ?_)
    have e : x.toInt = ((x.toInt.toNat : Nat) : Int) := by omega
    refine h x.toInt.toNat (by omega) (Int32.toInt_inj.mp ?_)
    have h2 : (nI x.toInt.toNat).toInt = ((x.toInt.toNat : Nat) : Int) := nI_toInt (by omega)
    exact e.trans h2.symm

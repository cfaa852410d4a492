/-! the pure layer: what a spec ends with -/
def ok {β : Type} (x : Option β) (P : β → Prop) : Prop := ∃ z, x = some z ∧ P z
theorem ok_some {β : Type} {z : β} {P : β → Prop} (h : P z) : ok (some z) P := ⟨z, rfl, h⟩
theorem ok_vlet {α β : Type} {x : α} {f : α → Option β} {P : β → Prop} (h : ∀ y, y = x → ok (f y) P) : ok (vlet x f) P := h x rfl
theorem ok_vb {α β : Type} {x : Option α} {f : α → Option β} {Q : α → Prop} {P : β → Prop} (hx : ok x Q) (h : ∀ z, Q z → ok (f z) P) : ok (vb x f) P := by
  obtain ⟨z, rfl, hz⟩ := hx
  exact h z hz
theorem ok_vi {β : Type} {c : Prop} {ic : Decidable c} {x y : Option β} {P : β → Prop} (ht : c → ok x P) (hf : ¬ c → ok y P) : ok (vi c ic x y) P := by
  unfold vi
  by_cases h : c
  · rw [if_pos h]; exact ht h
  · rw [if_neg h]; exact hf h
theorem ok_vg {β : Type} {b : Bool} {x : Option β} {P : β → Prop} (hb : b = true) (h : ok x P) : ok (vg b x) P := by
  subst hb; exact h
theorem ok_mono {β : Type} {x : Option β} {P Q : β → Prop} (h : ok x P) (hi : ∀ z, P z → Q z) : ok x Q := by
  obtain ⟨z, h1, h2⟩ := h
  exact ⟨z, h1, hi z h2⟩
/-! numbers: all in Int -/
theorem i_bmod (x : Int) : x.bmod (2 ^ 32) = (x + 2147483648) % 4294967296 - 2147483648 := by
  rw [Int.bmod_def]
  simp only [show ((2 ^ 32 : Nat) : Int) = 4294967296 from rfl]
  split <;> omega
theorem i_add (a b : Int32) : (a + b).toInt = (a.toInt + b.toInt + 2147483648) % 4294967296 - 2147483648 := by
  rw [Int32.toInt_add, i_bmod]
theorem i_sub (a b : Int32) : (a - b).toInt = (a.toInt - b.toInt + 2147483648) % 4294967296 - 2147483648 := by
  rw [Int32.toInt_sub, i_bmod]
theorem i_mul (a b : Int32) : (a * b).toInt = (a.toInt * b.toInt + 2147483648) % 4294967296 - 2147483648 := by
  rw [Int32.toInt_mul, i_bmod]
theorem i_lo (a : Int32) : -2147483648 ≤ a.toInt := Int32.le_toInt a
theorem i_hi (a : Int32) : a.toInt < 2147483648 := Int32.toInt_lt a
theorem i_0 : (0 : Int32).toInt = 0 := rfl
theorem i_1 : (1 : Int32).toInt = 1 := by decide
theorem i_m1 : (-1 : Int32).toInt = -1 := by decide
theorem i_m2 : (-2 : Int32).toInt = -2 := by decide
theorem i_m3 : (-3 : Int32).toInt = -3 := by decide
theorem i_m4 : (-4 : Int32).toInt = -4 := by decide
theorem i_nI (n : Nat) (h : n < 2147483648) : (nI n).toInt = (n : Int) := nI_toInt h
theorem i_eq (a b : Int32) : (a = b) = (a.toInt = b.toInt) := propext Int32.toInt_inj.symm
theorem i_lt (a b : Int32) : (a < b) = (a.toInt < b.toInt) := propext Int32.lt_iff_toInt_lt
theorem i_le (a b : Int32) : (a ≤ b) = (a.toInt ≤ b.toInt) := propext Int32.le_iff_toInt_le
theorem i_clamp (a : Int32) : a.toNatClampNeg = a.toInt.toNat := rfl
theorem vin_of {y : Int32} {n : Nat} (h1 : 0 ≤ y.toInt) (h2 : y.toInt < n) : vin y n = true := by
  simp only [vin, Bool.and_eq_true, decide_eq_true_eq, i_le, i_0, i_clamp]
  omega
theorem vz_of {x : Int32} (h : x.toInt = 0 ∨ x.toInt = 1) : vz x = true := by
  simp only [vz, Bool.or_eq_true, decide_eq_true_eq, i_eq, i_0, i_1]
  exact h
theorem vF_int : ((vF : Nat) : Int) = 20000 := rfl
theorem cpOk_mk {sp dp nn : Int32} {n0 n1 : Nat} (h1 : 0 ≤ sp.toInt) (h2 : 0 ≤ dp.toInt) (h3 : 0 ≤ nn.toInt) (h4 : sp.toInt + nn.toInt ≤ n0) (h5 : dp.toInt + nn.toInt ≤ n1) : cpOk sp dp nn n0 n1 = true := by
  simp only [cpOk, Bool.and_eq_true, decide_eq_true_eq, i_lt, i_0, i_clamp]
  omega
theorem i_min (a b : Int32) : (if a < b then a else b).toInt = min a.toInt b.toInt := by
  by_cases h : a < b
  · rw [if_pos h]; rw [i_lt] at h; omega
  · rw [if_neg h]; rw [i_lt] at h; omega
theorem i_minsub (a b c : Int32) : ((if a < b then a else b) - c).toInt = (min a.toInt b.toInt - c.toInt + 2147483648) % 4294967296 - 2147483648 := by
  rw [i_sub, i_min]
/-- a number between bounds is one of few -/
theorem i_few (y : Int32) (N : Nat) (hN : N < 1000 := by decide) (h0 : 0 ≤ y.toInt) (h1 : y.toInt < N) : ∃ k, k < N ∧ y = nI k := by
  refine ⟨y.toInt.toNat, by omega, ?_⟩
  rw [i_eq, i_nI _ (by omega)]
  omega
theorem shl_le (y : Int32) (h0 : 0 ≤ y.toInt) (h1 : y.toInt ≤ 5) : 1 ≤ ((nI 1) <<< (y &&& 31)).toInt ∧ ((nI 1) <<< (y &&& 31)).toInt ≤ 32 := by
  obtain ⟨k, hk, rfl⟩ := i_few y 6 (by decide) h0 (by omega)
  have : ∀ k, k < 6 → 1 ≤ ((nI 1) <<< (nI k &&& 31)).toInt ∧ ((nI 1) <<< (nI k &&& 31)).toInt ≤ 32 := by decide
  exact this k hk

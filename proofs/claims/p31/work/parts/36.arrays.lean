/-! the reference's rows of numbers: what each keeps -/
theorem i_l64 (x : Int32) : (Int32.toInt64 x).toInt = x.toInt := Int32.toInt_toInt64 x
theorem i_lN (n : Nat) (h : n < 2147483648) : (lN n).toInt = (n : Int) := lN_toInt h
theorem l_eq (a b : Int64) : (a = b) = (a.toInt = b.toInt) := propext Int64.toInt_inj.symm
theorem l_lt (a b : Int64) : (a < b) = (a.toInt < b.toInt) := propext Int64.lt_iff_toInt_lt
theorem l_le (a b : Int64) : (a ≤ b) = (a.toInt ≤ b.toInt) := propext Int64.le_iff_toInt_le
def arrOK (C : Nat → Int → Prop) (f : Nat → Int32) : Prop := ∀ i, C i (f i).toInt
theorem arrOK_upd {C : Nat → Int → Prop} {f : Nat → Int32} {y v : Int32} (h : arrOK C f) (hv : C y.toInt.toNat v.toInt) : arrOK C (upd f (Int32.toNatClampNeg y) v) := by
  intro i
  unfold upd
  split
  · rename_i e
    rw [e]
    exact hv
  · exact h i
theorem ix (k : Nat) (x : Int32) (hk : k < 1000) (h0 : 0 ≤ x.toInt) (h1 : x.toInt < 1000) : ((nI k) + x).toInt = k + x.toInt := by
  rw [i_add, i_nI _ (by omega)]; omega
theorem ixT (x y : Int32) (h0 : 0 ≤ x.toInt) (h1 : x.toInt ≤ 4) (h2 : 0 ≤ y.toInt) (h3 : y.toInt ≤ 4) : (((nI 25) + ((nI 5) * x)) + y).toInt = 25 + 5 * x.toInt + y.toInt := by
  have e1 : (nI 5 * x).toInt = 5 * x.toInt := by rw [i_mul, i_nI _ (by decide)]; omega
  have e2 : (nI 25 + nI 5 * x).toInt = 25 + 5 * x.toInt := by rw [i_add, e1, i_nI _ (by decide)]; omega
  rw [i_add, e2]; omega
/-- now: 0 the wish, 5 the money, 10 the shown, 15 the wrong guesses, 20 the state, 25 the signs -/
def nowC (i : Nat) (v : Int) : Prop := (i < 5 → 0 ≤ v ∧ v ≤ 7) ∧ (10 ≤ i → i < 15 → 0 ≤ v ∧ v ≤ 5) ∧ (15 ≤ i → i < 20 → 0 ≤ v ∧ v ≤ 255) ∧ (25 ≤ i → i < 50 → 0 ≤ v ∧ v ≤ 14)
theorem now_W {f : Nat → Int32} (h : arrOK nowC f) (x : Int32) (h0 : 0 ≤ x.toInt) (h1 : x.toInt ≤ 4) : 0 ≤ (f (Int32.toNatClampNeg ((nI 0) + x))).toInt ∧ (f (Int32.toNatClampNeg ((nI 0) + x))).toInt ≤ 7 :=
  (h _).1 (by rw [i_clamp, ix 0 x (by decide) h0 (by omega)]; omega)
theorem now_S {f : Nat → Int32} (h : arrOK nowC f) (x : Int32) (h0 : 0 ≤ x.toInt) (h1 : x.toInt ≤ 4) : 0 ≤ (f (Int32.toNatClampNeg ((nI 10) + x))).toInt ∧ (f (Int32.toNatClampNeg ((nI 10) + x))).toInt ≤ 5 :=
  (h _).2.1 (by rw [i_clamp, ix 10 x (by decide) h0 (by omega)]; omega) (by rw [i_clamp, ix 10 x (by decide) h0 (by omega)]; omega)
theorem now_G {f : Nat → Int32} (h : arrOK nowC f) (x : Int32) (h0 : 0 ≤ x.toInt) (h1 : x.toInt ≤ 4) : 0 ≤ (f (Int32.toNatClampNeg ((nI 15) + x))).toInt ∧ (f (Int32.toNatClampNeg ((nI 15) + x))).toInt ≤ 255 :=
  (h _).2.2.1 (by rw [i_clamp, ix 15 x (by decide) h0 (by omega)]; omega) (by rw [i_clamp, ix 15 x (by decide) h0 (by omega)]; omega)
theorem now_T {f : Nat → Int32} (h : arrOK nowC f) (x y : Int32) (h0 : 0 ≤ x.toInt) (h1 : x.toInt ≤ 4) (h2 : 0 ≤ y.toInt) (h3 : y.toInt ≤ 4) : 0 ≤ (f (Int32.toNatClampNeg (((nI 25) + ((nI 5) * x)) + y))).toInt ∧ (f (Int32.toNatClampNeg (((nI 25) + ((nI 5) * x)) + y))).toInt ≤ 14 :=
  (h _).2.2.2 (by rw [i_clamp, ixT x y h0 h1 h2 h3]; omega) (by rw [i_clamp, ixT x y h0 h1 h2 h3]; omega)
theorem now_uW {f : Nat → Int32} {x v : Int32} (h : arrOK nowC f) (h0 : 0 ≤ x.toInt) (h1 : x.toInt ≤ 4) (v0 : 0 ≤ v.toInt) (v1 : v.toInt ≤ 7) : arrOK nowC (upd f (Int32.toNatClampNeg ((nI 0) + x)) v) :=
  arrOK_upd h (by rw [ix 0 x (by decide) h0 (by omega)]; refine ⟨fun _ => ⟨v0, v1⟩, fun _ _ => ?_, fun _ _ => ?_, fun _ _ => ?_⟩ <;> omega)
theorem now_uM {f : Nat → Int32} {x v : Int32} (h : arrOK nowC f) (h0 : 0 ≤ x.toInt) (h1 : x.toInt ≤ 4) : arrOK nowC (upd f (Int32.toNatClampNeg ((nI 5) + x)) v) :=
  arrOK_upd h (by rw [ix 5 x (by decide) h0 (by omega)]; refine ⟨fun _ => ?_, fun _ _ => ?_, fun _ _ => ?_, fun _ _ => ?_⟩ <;> omega)
theorem now_uS {f : Nat → Int32} {x v : Int32} (h : arrOK nowC f) (h0 : 0 ≤ x.toInt) (h1 : x.toInt ≤ 4) (v0 : 0 ≤ v.toInt) (v1 : v.toInt ≤ 5) : arrOK nowC (upd f (Int32.toNatClampNeg ((nI 10) + x)) v) :=
  arrOK_upd h (by rw [ix 10 x (by decide) h0 (by omega)]; refine ⟨fun _ => ?_, fun _ _ => ⟨v0, v1⟩, fun _ _ => ?_, fun _ _ => ?_⟩ <;> omega)
theorem now_uG {f : Nat → Int32} {x v : Int32} (h : arrOK nowC f) (h0 : 0 ≤ x.toInt) (h1 : x.toInt ≤ 4) (v0 : 0 ≤ v.toInt) (v1 : v.toInt ≤ 255) : arrOK nowC (upd f (Int32.toNatClampNeg ((nI 15) + x)) v) :=
  arrOK_upd h (by rw [ix 15 x (by decide) h0 (by omega)]; refine ⟨fun _ => ?_, fun _ _ => ?_, fun _ _ => ⟨v0, v1⟩, fun _ _ => ?_⟩ <;> omega)
theorem now_uD {f : Nat → Int32} {x v : Int32} (h : arrOK nowC f) (h0 : 0 ≤ x.toInt) (h1 : x.toInt ≤ 4) : arrOK nowC (upd f (Int32.toNatClampNeg ((nI 20) + x)) v) :=
  arrOK_upd h (by rw [ix 20 x (by decide) h0 (by omega)]; refine ⟨fun _ => ?_, fun _ _ => ?_, fun _ _ => ?_, fun _ _ => ?_⟩ <;> omega)
theorem now_uT {f : Nat → Int32} {x y v : Int32} (h : arrOK nowC f) (h0 : 0 ≤ x.toInt) (h1 : x.toInt ≤ 4) (h2 : 0 ≤ y.toInt) (h3 : y.toInt ≤ 4) (v0 : 0 ≤ v.toInt) (v1 : v.toInt ≤ 14) : arrOK nowC (upd f (Int32.toNatClampNeg (((nI 25) + ((nI 5) * x)) + y)) v) :=
  arrOK_upd h (by rw [ixT x y h0 h1 h2 h3]; refine ⟨fun _ => ?_, fun _ _ => ?_, fun _ _ => ?_, fun _ _ => ⟨v0, v1⟩⟩ <;> omega)
theorem now_u0 {f : Nat → Int32} {y : Int32} (h : arrOK nowC f) : arrOK nowC (upd f (Int32.toNatClampNeg y) (nI 0)) :=
  arrOK_upd h (by rw [i_nI _ (by decide)]; refine ⟨fun _ => ?_, fun _ _ => ?_, fun _ _ => ?_, fun _ _ => ?_⟩ <;> omega)
/-- what is read: 0 the words, 1 the likenesses, 2 the actors, 42 the wishes -/
def readC (i : Nat) (v : Int) : Prop := (i = 0 → 0 ≤ v ∧ v ≤ 8) ∧ (i = 1 → 0 ≤ v ∧ v ≤ 6) ∧ (i = 2 → 0 ≤ v ∧ v ≤ 5) ∧ (42 ≤ i → i < 47 → 0 ≤ v ∧ v ≤ 7)
def pstC (i : Nat) (v : Int) : Prop := readC i v ∧ (i = 2 → 1 ≤ v)
theorem post_read {f : Nat → Int32} (h : arrOK pstC f) : arrOK readC f := fun i => (h i).1
theorem read_0 {f : Nat → Int32} (h : arrOK readC f) : 0 ≤ (f (Int32.toNatClampNeg (nI 0))).toInt ∧ (f (Int32.toNatClampNeg (nI 0))).toInt ≤ 8 := (h _).1 (by decide)
theorem read_1 {f : Nat → Int32} (h : arrOK readC f) : 0 ≤ (f (Int32.toNatClampNeg (nI 1))).toInt ∧ (f (Int32.toNatClampNeg (nI 1))).toInt ≤ 6 := (h _).2.1 (by decide)
theorem read_2 {f : Nat → Int32} (h : arrOK readC f) : 0 ≤ (f (Int32.toNatClampNeg (nI 2))).toInt ∧ (f (Int32.toNatClampNeg (nI 2))).toInt ≤ 5 := (h _).2.2.1 (by decide)
theorem post_2 {f : Nat → Int32} (h : arrOK pstC f) : 1 ≤ (f (Int32.toNatClampNeg (nI 2))).toInt ∧ (f (Int32.toNatClampNeg (nI 2))).toInt ≤ 5 := ⟨(h _).2 (by decide), (read_2 (post_read h)).2⟩
theorem read_W {f : Nat → Int32} (h : arrOK readC f) (x : Int32) (h0 : 0 ≤ x.toInt) (h1 : x.toInt ≤ 4) : 0 ≤ (f (Int32.toNatClampNeg ((nI 42) + x))).toInt ∧ (f (Int32.toNatClampNeg ((nI 42) + x))).toInt ≤ 7 :=
  (h _).2.2.2 (by rw [i_clamp, ix 42 x (by decide) h0 (by omega)]; omega) (by rw [i_clamp, ix 42 x (by decide) h0 (by omega)]; omega)
theorem read_uN {f : Nat → Int32} {y v : Int32} (h : arrOK readC f) (h0 : 3 ≤ y.toInt) (h1 : y.toInt < 42 ∨ 47 ≤ y.toInt) : arrOK readC (upd f (Int32.toNatClampNeg y) v) :=
  arrOK_upd h (by refine ⟨fun _ => ?_, fun _ => ?_, fun _ => ?_, fun _ _ => ?_⟩ <;> omega)
theorem read_u0 {f : Nat → Int32} {v : Int32} (h : arrOK readC f) (v0 : 0 ≤ v.toInt) (v1 : v.toInt ≤ 8) : arrOK readC (upd f (Int32.toNatClampNeg (nI 0)) v) :=
  arrOK_upd h (by rw [i_nI _ (by decide)]; refine ⟨fun _ => ⟨v0, v1⟩, fun _ => ?_, fun _ => ?_, fun _ _ => ?_⟩ <;> omega)
theorem read_u1 {f : Nat → Int32} {v : Int32} (h : arrOK readC f) (v0 : 0 ≤ v.toInt) (v1 : v.toInt ≤ 6) : arrOK readC (upd f (Int32.toNatClampNeg (nI 1)) v) :=
  arrOK_upd h (by rw [i_nI _ (by decide)]; refine ⟨fun _ => ?_, fun _ => ⟨v0, v1⟩, fun _ => ?_, fun _ _ => ?_⟩ <;> omega)
theorem read_u2 {f : Nat → Int32} {v : Int32} (h : arrOK readC f) (v0 : 0 ≤ v.toInt) (v1 : v.toInt ≤ 5) : arrOK readC (upd f (Int32.toNatClampNeg (nI 2)) v) :=
  arrOK_upd h (by rw [i_nI _ (by decide)]; refine ⟨fun _ => ?_, fun _ => ?_, fun _ => ⟨v0, v1⟩, fun _ _ => ?_⟩ <;> omega)
theorem read_uW {f : Nat → Int32} {x v : Int32} (h : arrOK readC f) (h0 : 0 ≤ x.toInt) (h1 : x.toInt ≤ 4) (v0 : 0 ≤ v.toInt) (v1 : v.toInt ≤ 7) : arrOK readC (upd f (Int32.toNatClampNeg ((nI 42) + x)) v) :=
  arrOK_upd h (by rw [ix 42 x (by decide) h0 (by omega)]; refine ⟨fun _ => ?_, fun _ => ?_, fun _ => ?_, fun _ _ => ⟨v0, v1⟩⟩ <;> omega)
theorem upd_ne {f : Nat → Int32} {y v : Int32} (k : Nat) (hk : k < 3) (h0 : 3 ≤ y.toInt) : (upd f (Int32.toNatClampNeg y) v (Int32.toNatClampNeg (nI k))).toInt = (f (Int32.toNatClampNeg (nI k))).toInt := by
  unfold upd
  rw [if_neg]
  rw [i_clamp, i_clamp, i_nI _ (by omega)]
  omega
theorem upd_at {f : Nat → Int32} {y w v : Int32} (h : y.toInt = w.toInt) : upd f (Int32.toNatClampNeg y) v (Int32.toNatClampNeg w) = v := by
  unfold upd
  rw [if_pos]
  rw [i_clamp, i_clamp, h]
theorem upd_off {f : Nat → Int32} {y w v : Int32} (h : ¬ w.toInt = y.toInt) (h0 : 0 ≤ w.toInt) (h1 : 0 ≤ y.toInt) : (upd f (Int32.toNatClampNeg y) v (Int32.toNatClampNeg w)).toInt = (f (Int32.toNatClampNeg w)).toInt := by
  unfold upd
  rw [if_neg]
  rw [i_clamp, i_clamp]
  omega
/-- rows of nows -/
def pastC (i : Nat) (v : Int) : Prop := nowC (i % 50) v
/-- bounds of the first k -/
def rngOK (f : Nat → Int32) (k lo hi : Int) : Prop := ∀ i : Nat, (i : Int) < k → lo ≤ (f i).toInt ∧ (f i).toInt ≤ hi
theorem rng_at {f : Nat → Int32} {k lo hi : Int} (h : rngOK f k lo hi) (y : Int32) (h0 : 0 ≤ y.toInt) (h1 : y.toInt < k) : lo ≤ (f (Int32.toNatClampNeg y)).toInt ∧ (f (Int32.toNatClampNeg y)).toInt ≤ hi := h _ (by rw [i_clamp]; omega)
theorem rng_mono {f : Nat → Int32} {k k' lo hi : Int} (h : rngOK f k lo hi) (hk : k' ≤ k) : rngOK f k' lo hi := fun i hi' => h i (by omega)
theorem rng_upd {f : Nat → Int32} {y v : Int32} {k k' lo hi : Int} (h : rngOK f k lo hi) (h0 : 0 ≤ y.toInt) (v0 : lo ≤ v.toInt) (v1 : v.toInt ≤ hi) (hk : k' ≤ k ∨ k' ≤ k + 1 ∧ k = y.toInt) : rngOK (upd f (Int32.toNatClampNeg y) v) k' lo hi := by
  intro i hi'
  unfold upd
  split
  · exact ⟨v0, v1⟩
  · rename_i hne
    rw [i_clamp] at hne
    exact h i (by omega)
theorem rng_nil {f : Nat → Int32} {k lo hi : Int} (h : k ≤ 0) : rngOK f k lo hi := fun i hi' => by omega
theorem read_of {f : Nat → Int32} (h : rngOK f 52 0 0) : arrOK readC f := fun i => by
  by_cases hi : i < 52
  · have := h i (by omega)
    refine ⟨fun _ => ?_, fun _ => ?_, fun _ => ?_, fun _ _ => ?_⟩ <;> omega
  · refine ⟨fun _ => ?_, fun _ => ?_, fun _ => ?_, fun _ _ => ?_⟩ <;> omega
set_option maxRecDepth 100000 in
theorem bits_dec (y : Int32) (h0 : 0 ≤ y.toInt) (h1 : y.toInt ≤ 255) (hne : ¬ y.toInt = 0) : 0 ≤ (y &&& (y - (nI 1))).toInt ∧ (y &&& (y - (nI 1))).toInt < y.toInt := by
  obtain ⟨k, hk, rfl⟩ := i_few y 256 (by decide) h0 (by omega)
  have hh : ∀ k, k < 256 → k = 0 ∨ 0 ≤ (nI k &&& (nI k - nI 1)).toInt ∧ (nI k &&& (nI k - nI 1)).toInt < (nI k).toInt := by decide +kernel
  rcases hh k hk with rfl | h
  · exact absurd rfl hne
  · exact h

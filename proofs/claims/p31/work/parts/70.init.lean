/-! the first state -/
theorem lay_map (a b : Nat) (x1 : Nat → Int32) (x2 : Int32) (x3 x4 x5 x6 : Nat → Int32) (x7 x8 x9 x10 x11 x12 : Int32) (x13 x14 : Nat → Int32) (x15 x16 x17 x18 x19 : Int32) : sX8_lay a b x1 x2 x3 x4 x5 x6 x7 x8 x9 x10 x11 x12 x13 x14 x15 x16 x17 x18 x19 = (sX8_lay 0 1 x1 x2 x3 x4 x5 x6 x7 x8 x9 x10 x11 x12 x13 x14 x15 x16 x17 x18 x19).map (fun z => (z.1, (if z.2.1 = 0 then a else b), (if z.2.2.1 = 0 then a else b), z.2.2.2)) := by
  unfold sX8_lay
  cases sX3_firstFault 200 x18 x19 x1 x3 x4 x5 x6 x7 x8 x9 x10 x11 x12 x14 x2 with
  | none => rfl
  | some z1 =>
    show vi _ _ _ _ = Option.map _ (vi _ _ _ _)
    unfold vi
    by_cases h : z1.1 = (-4)
    · rw [if_pos h, if_pos h]
      show (if (z1.2.2.2.2.2.2.2.1 < nI 1) then _ else _) = Option.map _ (if (z1.2.2.2.2.2.2.2.1 < nI 1) then _ else _)
      by_cases h2 : z1.2.2.2.2.2.2.2.1 < nI 1
      · rw [if_pos h2, if_pos h2]; rfl
      · rw [if_neg h2, if_neg h2]
        show (if (nI 1 ≤ z1.2.2.2.2.2.2.2.2.2.1) then _ else _) = Option.map _ (if (nI 1 ≤ z1.2.2.2.2.2.2.2.2.2.1) then _ else _)
        by_cases h3 : nI 1 ≤ z1.2.2.2.2.2.2.2.2.2.1
        · rw [if_pos h3, if_pos h3]; rfl
        · rw [if_neg h3, if_neg h3]; rfl
    · rw [if_neg h, if_neg h]; rfl
theorem init_map (a b : Nat) : ∀ (n : Nat) (y : Int32) (f : Nat → Int32), LX8_init a b n y f = (LX8_init 0 1 n y f).map (fun z => ((if z.1 = 0 then a else b), (if z.2.1 = 0 then a else b), z.2.2)) := by
  intro n
  induction n with
  | zero => intro y f; rfl
  | succ n ih =>
    intro y f
    rw [LX8_init, LX8_init]
    unfold vi
    by_cases h : nI 92 ≤ y
    · rw [if_pos h, if_pos h]
      simp only [vlet]
      rw [lay_map a b]
      generalize sX8_lay 0 1 _ _ _ _ _ _ _ _ _ _ _ _ _ _ _ _ _ _ _ = q
      cases q with
      | none => rfl
      | some z => rfl
    · rw [if_neg h, if_neg h]
      by_cases h2 : nI 200 ≤ y
      · rw [if_pos h2, if_pos h2]
        simp only [vlet]
        rw [lay_map a b]
        generalize sX8_lay 0 1 _ _ _ _ _ _ _ _ _ _ _ _ _ _ _ _ _ _ _ = q
        cases q with
        | none => rfl
        | some z => rfl
      · rw [if_neg h2, if_neg h2]
        simp only [vlet, vg]
        cases vin y 92 with
        | false => rfl
        | true =>
          cases vin y 200 with
          | false => rfl
          | true => exact ih _ _
def ck9 : Bool := match sX9_init with
  | none => false
  | some w => w.1 == 0 && w.2.1 == 0 && w.2.2.1 == 0 && (List.range 52).all (fun i => decide ((i = 0 → 0 ≤ (w.2.2.2.1 i).toInt ∧ (w.2.2.2.1 i).toInt ≤ 8) ∧ (i = 1 → 0 ≤ (w.2.2.2.1 i).toInt ∧ (w.2.2.2.1 i).toInt ≤ 6) ∧ (i = 2 → 1 ≤ (w.2.2.2.1 i).toInt ∧ (w.2.2.2.1 i).toInt ≤ 5) ∧ (42 ≤ i → i < 47 → 0 ≤ (w.2.2.2.1 i).toInt ∧ (w.2.2.2.1 i).toInt ≤ 7))) && (List.range 50).all (fun i => decide ((i < 5 → 0 ≤ (w.2.2.2.2 i).toInt ∧ (w.2.2.2.2 i).toInt ≤ 7) ∧ (10 ≤ i → i < 15 → 0 ≤ (w.2.2.2.2 i).toInt ∧ (w.2.2.2.2 i).toInt ≤ 5) ∧ (15 ≤ i → i < 20 → 0 ≤ (w.2.2.2.2 i).toInt ∧ (w.2.2.2.2 i).toInt ≤ 255) ∧ (25 ≤ i → i < 50 → 0 ≤ (w.2.2.2.2 i).toInt ∧ (w.2.2.2.2 i).toInt ≤ 14)))
set_option maxRecDepth 1000000 in
theorem ck9_ok : ck9 = true := by decide +kernel
def ck8 : Bool := match sX8_init 0 1 with
  | none => false
  | some v => v.1 == 1 && v.2.1 == 0 && decide (0 ≤ v.2.2.2.1.toInt ∧ v.2.2.2.1.toInt ≤ 8) && decide (0 ≤ v.2.2.2.2.1.toInt ∧ v.2.2.2.2.1.toInt ≤ 6) && decide (0 ≤ v.2.2.2.2.2.1.toInt ∧ v.2.2.2.2.2.1.toInt ≤ 5) && (List.range 55).all (fun i => decide (0 ≤ (v.2.2.2.2.2.2.2.2.2.2.2.2.2.1 i).toInt ∧ (v.2.2.2.2.2.2.2.2.2.2.2.2.2.1 i).toInt ≤ 5 ∨ ¬ i % 11 = 3)) && v.2.2.2.2.2.2.2.2.2.2.2.2.2.2.2.1 == 0 && v.2.2.2.2.2.2.2.2.2.2.2.2.2.2.2.2.1 == 0 && v.2.2.2.2.2.2.2.2.2.2.2.2.2.2.2.2.2.1 == 0
set_option maxRecDepth 1000000 in
theorem ck8_ok : ck8 = true := by decide +kernel
set_option maxHeartbeats 4000000 in
theorem st_init0 : St_init Inv := by
  have h9 := ck9_ok
  have h8 := ck8_ok
  unfold ck9 at h9
  unfold ck8 at h8
  cases e9 : sX9_init with
  | none => rw [e9] at h9; cases h9
  | some w =>
    cases e8 : sX8_init 0 1 with
    | none => rw [e8] at h8; cases h8
    | some v =>
      rw [e9] at h9
      rw [e8] at h8
      simp only [Bool.and_eq_true, beq_iff_eq, List.all_eq_true, List.mem_range, decide_eq_true_eq] at h9 h8
      obtain ⟨⟨⟨⟨p1, p2⟩, p3⟩, p4⟩, p5⟩ := h9
      obtain ⟨⟨⟨⟨⟨⟨⟨⟨q1, q2⟩, q3⟩, q4⟩, q5⟩, q6⟩, q7⟩, q8⟩, q9⟩ := h8
      have z0 : ∀ i : Nat, ((fun _ => (0 : Int32)) i : Int32).toInt = 0 := fun i => rfl
      have e0 : ∀ {x : Int32}, x = 0 → x.toInt = 0 := fun h => by rw [h]; rfl
      refine ⟨v.2.2, w, fun a b => ?_, e9, ?_⟩
      · show LX8_init a b vF (nI 0) (fun _ => (0 : Int32)) = _
        rw [init_map]
        have e : LX8_init 0 1 vF (nI 0) (fun _ => (0 : Int32)) = some v := e8
        rw [e]
        show some (if v.1 = 0 then a else b, if v.2.1 = 0 then a else b, v.2.2) = some (b, a, v.2.2)
        rw [q1, q2]
        rfl
      · have k9 := e0 p1
        have k10 := e0 p2
        have k11 := e0 p3
        have k7 := e0 q7
        have k8 := e0 q8
        have k12 := e0 q9
        have zn : arrOK nowC (fun _ => (0 : Int32)) := fun i => by
          rw [z0 i]
          refine ⟨fun _ => ?_, fun _ _ => ?_, fun _ _ => ?_, fun _ _ => ?_⟩ <;> omega
        have zp : arrOK pastC (fun _ => (0 : Int32)) := fun i => zn (i % 50)
        refine ⟨q3.1, q3.2, q4.1, q4.2, q5.1, q5.2, fun i hi hm => ?_, by decide, by omega, by omega, fun r hr => by omega, by decide, by omega, by omega, fun r hr => by omega, by omega, by omega, fun i => ?_, fun i => ?_, zp, by omega, by omega, zp, by omega, by omega, fun i _ => by rw [z0 i]; omega, by omega, by omega, by decide, by decide, rfl⟩
        · rcases q6 i (by omega) with h | h
          · exact h
          · exact absurd hm h
        · by_cases hi : i < 52
          · obtain ⟨a, b, c, d⟩ := p4 i hi
            refine ⟨⟨a, b, fun h => ?_, d⟩, fun h => (c h).1⟩
            have := c h
            omega
          · refine ⟨⟨fun _ => ?_, fun _ => ?_, fun _ => ?_, fun _ _ => ?_⟩, fun _ => ?_⟩ <;> omega
        · by_cases hi : i < 50
          · exact p5 i hi
          · refine ⟨fun _ => ?_, fun _ _ => ?_, fun _ _ => ?_, fun _ _ => ?_⟩ <;> omega

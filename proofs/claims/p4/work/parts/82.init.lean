/-! the first state is alike on both sides -/
def ckR : Bool := match sX8_init 0 1 with
  | none => false
  | some v => match sX9_init with
    | none => false
    | some w => decide (v.2.2.2.1 = nI 6 ∧ v.2.2.2.2.1 = nI 4 ∧ v.2.2.2.2.2.1 = nI 4 ∧ w.2.2.2.1 0 = nI 6 ∧ w.2.2.2.1 1 = nI 4 ∧ w.2.2.2.1 2 = nI 4 ∧ w.2.2.2.1 3 = v.2.2.2.2.2.2.1 ∧ w.2.2.2.1 6 = v.2.2.2.2.2.2.2.2.1 ∧ w.2.2.2.1 4 = nI 3 ∧ w.2.2.2.1 5 = nI 2 ∧ v.2.2.2.2.2.2.2.1 = nI 32 ∧ v.2.2.2.2.2.2.2.2.1 = nI 2 ∧ v.2.2.2.2.2.2.2.2.2.2.2.2.2.2.2.2.1 = nI 0 ∧ w.2.1 = nI 0 ∧ v.2.2.2.2.2.2.2.2.2.2.2.2.2.2.2.2.2.1 = nI 0 ∧ w.2.2.1 = nI 0) && (List.range 6).all (fun i => decide (v.2.2.2.2.2.2.2.2.2.1 i = w.2.2.2.1 (7 + i) ∧ v.2.2.2.2.2.2.2.2.2.2.1 i = w.2.2.2.1 (15 + i) ∧ v.2.2.2.2.2.2.2.2.2.2.2.1 i = w.2.2.2.1 (23 + i) ∧ 1 ≤ (v.2.2.2.2.2.2.2.2.2.1 i).toInt ∧ (v.2.2.2.2.2.2.2.2.2.1 i).toInt < 10)) && (List.range 4).all (fun i => decide (v.2.2.2.2.2.2.2.2.2.2.2.2.1 i = w.2.2.2.1 (31 + i)))
set_option maxRecDepth 1000000 in
theorem ckR_ok : ckR = true := by decide +kernel
set_option maxHeartbeats 4000000 in
theorem st_init_ok : St_init InvF := by
  obtain ⟨u8, w9, h8, h9, hI⟩ := st_init0
  refine ⟨u8, w9, h8, h9, hI, ?_⟩
  have hR := ckR_ok
  unfold ckR at hR
  rw [h8 0 1, h9] at hR
  simp only [Bool.and_eq_true, List.all_eq_true, List.mem_range, decide_eq_true_eq] at hR
  obtain ⟨⟨⟨q1, q2, q3, q4, q5, q6, q7, q8, q9, q10, q11, q12, q13, q14, q15, q16⟩, hw⟩, hl⟩ := hR
  refine ⟨⟨0, by omega, rfl, rfl, fun i hi => absurd hi (by omega)⟩, ⟨6, 4, 4, by omega, q1, q2, q3, ⟨by omega, by omega, by omega⟩, ⟨q4, q5, q6, q7, q8⟩, ⟨3, 2, by omega, by omega, by omega, by omega, q9, q10, q11⟩, ⟨2, by omega, q12⟩, fun i hi => ?_, hl⟩, ⟨0, by omega, q13, q14⟩, ⟨0, by omega, q15, q16⟩, rfl⟩
  obtain ⟨c1, c2, c3, c4, c5⟩ := hw i hi
  refine ⟨c1, c2, c3, ?_⟩
  obtain ⟨y, y1, y2⟩ := n_ofN (N := 10) (by omega) c5
  rw [y2, i_nI _ (by omega)] at c4
  exact ⟨y, by omega, by omega, y2⟩

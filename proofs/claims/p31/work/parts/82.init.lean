/-! the first state is alike on both sides -/
def ckR : Bool := match sX8_init 0 1 with
  | none => false
  | some v => match sX9_init with
    | none => false
    | some w => decide (v.2.2.2.1 = nI 6 ∧ v.2.2.2.2.1 = nI 4 ∧ v.2.2.2.2.2.1 = nI 4 ∧ w.2.2.2.1 0 = nI 6 ∧ w.2.2.2.1 1 = nI 4 ∧ w.2.2.2.1 2 = nI 4 ∧ w.2.2.2.1 3 = v.2.2.2.2.2.2.1 ∧ w.2.2.2.1 6 = v.2.2.2.2.2.2.2.2.1 ∧ w.2.2.2.1 4 = nI 3 ∧ w.2.2.2.1 5 = nI 2 ∧ v.2.2.2.2.2.2.2.1 = nI 32 ∧ v.2.2.2.2.2.2.2.2.1 = nI 2 ∧ v.2.2.2.2.2.2.2.2.2.2.2.2.2.2.2.2.1 = nI 0 ∧ w.2.1 = nI 0 ∧ v.2.2.2.2.2.2.2.2.2.2.2.2.2.2.2.2.2.1 = nI 0 ∧ w.2.2.1 = nI 0 ∧ v.2.2.2.2.2.2.2.2.2.2.2.2.2.2.2.1 = nI 0 ∧ w.1 = nI 0) && (List.range 4).all (fun a => decide (v.2.2.2.2.2.2.2.2.2.2.2.2.2.1 (a * 11) = w.2.2.2.1 (37 + a) ∧ 0 ≤ (w.2.2.2.1 (37 + a)).toInt ∧ (w.2.2.2.1 (37 + a)).toInt < 4 ∧ v.2.2.2.2.2.2.2.2.2.2.2.2.2.1 (a * 11 + 1) = w.2.2.2.2 a ∧ 0 ≤ (w.2.2.2.2 a).toInt ∧ (w.2.2.2.2 a).toInt < 6 ∧ v.2.2.2.2.2.2.2.2.2.2.2.2.2.1 (a * 11 + 2) = w.2.2.2.2 (5 + a) ∧ 0 ≤ (w.2.2.2.2 (5 + a)).toInt ∧ (w.2.2.2.2 (5 + a)).toInt < 100)) && (List.range 4).all (fun a => (List.range 11).all (fun j => decide (3 ≤ j → v.2.2.2.2.2.2.2.2.2.2.2.2.2.1 (a * 11 + j) = nI 0))) && (List.range 50).all (fun i => decide (10 ≤ i → w.2.2.2.2 i = nI 0)) && (List.range 6).all (fun i => decide (v.2.2.2.2.2.2.2.2.2.1 i = w.2.2.2.1 (7 + i) ∧ v.2.2.2.2.2.2.2.2.2.2.1 i = w.2.2.2.1 (15 + i) ∧ v.2.2.2.2.2.2.2.2.2.2.2.1 i = w.2.2.2.1 (23 + i) ∧ 1 ≤ (v.2.2.2.2.2.2.2.2.2.1 i).toInt ∧ (v.2.2.2.2.2.2.2.2.2.1 i).toInt < 10)) && (List.range 4).all (fun i => decide (v.2.2.2.2.2.2.2.2.2.2.2.2.1 i = w.2.2.2.1 (31 + i)))
set_option maxRecDepth 1000000 in
theorem ckR_ok : ckR = true := by decide +kernel
set_option maxHeartbeats 4000000 in
theorem st_init_ok : St_init InvF := by
  obtain ⟨u8, w9, h8, h9, hI⟩ := st_init0
  refine ⟨u8, w9, h8, h9, hI, ?_⟩
  have hR := ckR_ok
  unfold ckR at hR
  rw [h8 0 1, h9] at hR
  simp only [Bool.and_eq_true, List.all_eq_true, List.mem_range, decide_eq_true_eq] at hR
  obtain ⟨⟨⟨⟨⟨⟨q1, q2, q3, q4, q5, q6, q7, q8, q9, q10, q11, q12, q13, q14, q15, q16, q17, q18⟩, hr⟩, hj⟩, hz⟩, hw⟩, hl⟩ := hR
  refine ⟨⟨0, by omega, rfl, rfl, fun i hi => absurd hi (by omega)⟩, ⟨6, 4, 4, by omega, q1, q2, q3, ⟨⟨by omega, by omega, by omega⟩, ⟨q4, q5, q6, q7, q8⟩, ⟨3, 2, by omega, by omega, by omega, by omega, q9, q10, q11⟩, ⟨2, by omega, q12⟩, fun i hi => ?_, hl⟩, SR_start (by omega) ⟨fun a ha => ⟨?_, fun j j1 j2 => hj a ha j (by omega) j1⟩, fun i i1 i2 => hz i i2 i1⟩, ⟨0, by omega, q17, q18, fun i hi => absurd hi (by omega)⟩, ⟨0, by omega, q13, q14, fun i hi => absurd hi (by omega)⟩, ⟨0, by omega, q15, q16, fun i hi => absurd hi (by omega)⟩⟩, rfl, rfl⟩
  · obtain ⟨c1, c2, c3, c4, c5⟩ := hw i hi
    refine ⟨c1, c2, c3, ?_⟩
    obtain ⟨y, y1, y2⟩ := n_ofN (N := 10) (by omega) c5
    rw [y2, i_nI _ (by omega)] at c4
    exact ⟨y, by omega, by omega, y2⟩
  · obtain ⟨r1, r2, r3, r4, r5, r6, r7, r8, r9⟩ := hr a ha
    obtain ⟨k, k1, k2⟩ := n_ofN (N := 4) r2 r3
    obtain ⟨x, x1, x2⟩ := n_ofN (N := 6) r5 r6
    obtain ⟨co, o1, o2⟩ := n_ofN (N := 100) r8 r9
    exact ⟨k, x, co, by omega, x1, by omega, r1.trans k2, k2, r4.trans x2, x2, r7.trans o2, o2⟩

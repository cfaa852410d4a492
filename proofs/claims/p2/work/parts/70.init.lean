/-! the first state -/
set_option maxHeartbeats 4000000 in
set_option maxRecDepth 100000 in
theorem st_init_ok : St_init Inv := by
  sorry

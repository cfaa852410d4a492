def Inv : InvT := fun _ _ _ _ _ _ _ _ _ _ _ _ _ _ _ _ _ _ _ _ _ _ _ _ _ _ _ _ _ _ _ _ => True
theorem steps_ok : Steps Inv := sorry
theorem st_init_ok : St_init Inv := sorry

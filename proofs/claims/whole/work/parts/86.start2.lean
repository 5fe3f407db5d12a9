theorem MC_start : ∃ Mc M2 M3, fX1_begin 3 64 MC = some Mc ∧ fX7_begins Z0 = some M2 ∧ fX7_settles M2 = some M3 ∧ Rel Mc M3 :=
  R_start rfl rfl rfl rfl rfl rfl rfl rfl rfl rfl (fun i hi => by
    have : i = 0 ∨ i = 1 := by omega
    rcases this with rfl | rfl <;> rfl) rfl

/-! ===== the last references ===== -/
def rfB0 : Nat → Nat → Option Nat := upR (rfMo rfA9 72) 49 0 72
def rfB1 : Nat → Nat → Option Nat := upR (rfMo rfB0 76) 49 1 76
theorem clB0 : ∀ x y b, rfB0 x y = some b → b < 76 := upR_cl (N := 76) (N' := 76) (rfMo_cl clA9) (by omega) (by omega)
theorem clB1 : ∀ x y b, rfB1 x y = some b → b < 80 := upR_cl (N := 80) (N' := 80) (rfMo_cl clB0) (by omega) (by omega)
theorem nB0 : ∀ x, 76 ≤ x → ∀ y, rfB0 x y = none := fun x hx y => by
  unfold rfB0
  rw [upR_o _ _ _ _ (Or.inl (by omega)), rfMo_o (by omega)]
  exact nA9 x (by omega) y

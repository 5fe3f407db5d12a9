/-! ===== the made world read as the methods read it ===== -/
def MC : Mm := wI (wI MA9 0 7 (nI 64)) 0 8 (nI 68)
theorem kdI_V : ∀ k, k < 80 → k ≠ 0 → (shC k).1 = 0 → kdI (shC k).2 = kdV (shC k).2 := by decide +kernel
theorem rfB1_C : ∀ k, k < 80 → ∀ j, j < 3 → (k = 0 ∨ ¬ (shC k).1 = 0 ∨ ¬ (kdV (shC k).2)[j]? = some 2 ∨ rfB1 k j = rfC k j) := by decide +kernel
theorem kd2_3 : ∀ k, k < 80 → k ≠ 0 → (shC k).1 = 0 → ∀ j, j < 8 → (kdV (shC k).2)[j]? = some 2 → j < 3 := by decide +kernel
theorem rfB1_0 : ∀ j, j < 7 → rfB1 0 j = rfC 0 j := by decide +kernel
theorem rfB1_8 : ∀ j, j < 10 → rfB1 8 j = rfC 8 j := by decide +kernel
theorem rfB1_49 : ∀ j, j < 2 → rfB1 49 j = rfC 49 j := by decide +kernel
theorem rfB1_53 : ∀ j, j < 7 → rfB1 53 j = rfC 53 j := by decide +kernel
theorem rfB1_t : rfB1 0 7 = some 64 ∧ rfB1 0 8 = some 68 := ⟨rfl, rfl⟩

/-! ===== at the start the two are related ===== -/
def Z0 : Mm := (fun _ _ => 0, 0)
theorem R_start {M1 : Mm} (h07 : M1.1 0 7 = nI 64) (h08 : M1.1 0 8 = nI 68) (h4 : M1.1 64 4 = nI 0) (h5 : M1.1 64 5 = nI 3) (h6 : M1.1 64 6 = nI 0) (h7 : M1.1 64 7 = nI 70) (h11 : M1.1 1 1 = nI 0) (h71 : M1.1 7 1 = nI 0) (h72 : M1.1 7 2 = nI 0) (h61 : M1.1 61 2 = nI 0) (h50 : ∀ i, i < 2 → M1.1 50 i = nI 0) (h2 : M1.2 = 0) : ∃ Mc M2 M3, fX1_begin 3 64 M1 = some Mc ∧ fX7_begins Z0 = some M2 ∧ fX7_settles M2 = some M3 ∧ Rel Mc M3 := by
  obtain ⟨Mc, c1, c2, c3⟩ := c_begin (M0 := M1) (b := 64) (by decide) (τ := tau0) (ω := fun _ => 0) (fun r hr => absurd hr (by simp [tau0]))
  have e : fX7_begins Z0 = some (wI (wI (wI (wI (wI Z0 0 9 0) 2 4 0) 2 5 3) 2 6 0) 2 7 70) := by
    unfold fX7_begins
    rw [lt_eq, lt_eq, lt_eq, lt_eq, lt_eq, ct4, ct5, ct6, ct7]
  have d : DRm tau0 (fun _ => 0) false false (wI (wI (wI (wI (wI Z0 0 9 0) 2 4 0) 2 5 3) 2 6 0) 2 7 70) := by
    refine ⟨?_, ?_, ?_, ?_, fun r hr => absurd hr (by simp [tau0]), fun w hw => absurd hw (by simp [tau0]), ?_⟩
    · rw [wI_o _ _ _ _ (by omega), wI_o _ _ _ _ (by omega), wI_o _ _ _ _ (by omega), wI_v]
      rfl
    · rw [wI_o _ _ _ _ (by omega), wI_o _ _ _ _ (by omega), wI_v]
      rfl
    · rw [wI_o _ _ _ _ (by omega), wI_v]
      rfl
    · rw [wI_v]
      rfl
    · rw [wI_o _ _ _ _ (by omega), wI_o _ _ _ _ (by omega), wI_o _ _ _ _ (by omega), wI_o _ _ _ _ (by omega), wI_v]
      rfl
  obtain ⟨M3, s1, s2, s3, s4, s5, s6, s7, s8, s9⟩ := m_settles d OK0
  refine ⟨Mc, _, M3, c1, e, s1, 64, tau0, bgK tau0 (fun _ => 0) 6, ⟨OK0.1, ⟨rfl, by rw [c2.2 _ _ (by omega), h07], by rw [c2.2 _ _ (by omega), h4]; rfl, by rw [c2.2 _ _ (by omega), h5]; rfl, by rw [c2.2 _ _ (by omega), h6]; rfl, by rw [c2.2 _ _ (by omega), h7]; rfl, fun w hw => absurd hw (by simp [tau0])⟩, by rw [c2.2 _ _ (by omega), h08], s3⟩, ⟨c3, s4, bg_MI OK0⟩, ⟨0, fun _ => 0, by omega, by rw [c2.2 _ _ (by omega), h11], s5, fun j hj => absurd hj (by omega)⟩, ⟨0, 0, fun _ _ => 0, by omega, by omega, by rw [c2.2 _ _ (by omega), h71], by rw [c2.2 _ _ (by omega), h72], s6, fun i hi => absurd hi (by omega)⟩, fun i hi => ⟨false, by rw [c2.2 _ _ (by omega), h50 i hi]; rfl, ?_, fun z => absurd z (by decide)⟩, ⟨0, fun _ => 0, fun _ => false, by omega, by rw [c2.2 _ _ (by omega), h61], s7, fun i hi => absurd hi (by omega)⟩, ?_⟩
  · have : i = 0 ∨ i = 1 := by omega
    rcases this with rfl | rfl
    · exact s8
    · exact s9
  · rw [c2.1, s2, h2]
    rfl

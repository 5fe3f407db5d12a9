/-! ===== room, child, work, count ===== -/
theorem sw2 {p : Int32} {α : Type} {a b c d : α} : (if p = nI 0 then a else (if p = nI 1 then b else (if p = nI 2 then c else d))) = (if p = nI 0 then a else (if p = nI 1 then b else (if p = nI 2 then c else d))) := rfl
/-- what one asks for: one of n, or bad -/
theorem what_cases (n : Nat) (hn : n ≤ 100) (p : Int32) : (∃ k, k < n ∧ p = nI k ∧ (inB p n) = true) ∨ ((inB p n) = false ∧ ∀ k, k < n → ¬ p = nI k) := by
  rcases isX_cases n (by omega) p with h | ⟨h, hx⟩
  · exact Or.inl h
  · refine Or.inr ⟨h, fun k hk e => ?_⟩
    subst e
    rcases hx with hx | ⟨-, hx⟩
    · exact nI_pos (by omega) hx
    · exact nI_ge hk (by omega) hx
theorem R_room {Mc Md : Mm} (h : Rel Mc Md) (p q : Int32) : ∃ r Md', fX6_room p q Mc = some r ∧ fX7_room p q Md = some (r, Md') ∧ Rel Mc Md' := by
  obtain ⟨t, τ, μ, h⟩ := h
  have hz := h.z
  have hT := h.1.1
  have h6 := hT.1
  have ein : fX7_in q 0 2 = some (b2i (inB q 3)) := m_inB (B := 2) (by decide) q
  unfold fX6_room fX7_room
  rw [lt_eq, c_isRoom hT h.1.2.1, m_isRoom hT hz.1.2.2.2, ein, bP_s, bP_s, bP_s]
  generalize wI Md 0 0 0 = Mz at *
  rcases isX_cases (τ 0) (by omega) p with ⟨k, hk, rfl, hb⟩ | ⟨hb, hx⟩
  · rw [hb, if_neg (show ¬ b2i true = 0 by decide), if_neg (show ¬ b2i true = 0 by decide)]
    simp only [ofN, nI_add]
    rcases what_cases 3 (by decide) q with ⟨w, hw, rfl, hb2⟩ | ⟨hb2, hx⟩
    · rw [hb2, if_neg (show ¬ b2i true = nI 0 by decide), ix_ok (by omega) (by decide), ix_ok (by omega) (by decide), ix_ok (by omega) (by decide), nI_clamp (by omega), nI_clamp (by omega)]
      have : w = 0 ∨ w = 1 ∨ w = 2 := by omega
      rcases this with rfl | rfl | rfl
      · rw [if_pos rfl, if_pos rfl, hz.2.1.2.1 (1 + k) (by omega), show Mc.1 4 k = nI (μ (1 + k)) from h.2.1.1.2.2.2.1 k (by omega)]
        exact ⟨_, _, rfl, rfl, t, τ, μ, hz⟩
      · rw [if_neg (show ¬ nI 1 = nI 0 by decide), if_pos rfl, if_neg (show ¬ nI 1 = nI 0 by decide), if_pos rfl, c_ageOfRoom hT h.2.1.1 h.2.1.2.2 (by omega), m_ageOf hT hz.1.2.2.2 hz.2.1.2.1 h.2.1.2.2 hk]
        exact ⟨_, _, rfl, rfl, t, τ, μ, hz⟩
      · rw [if_neg (show ¬ nI 2 = nI 0 by decide), if_neg (show ¬ nI 2 = nI 1 by decide), if_pos rfl, if_neg (show ¬ nI 2 = nI 0 by decide), if_neg (show ¬ nI 2 = nI 1 by decide), m_joinedWith hT hz.1.2.2.2 hz.2.1.2.1 h.2.1.2.2 hk, show Mc.1 5 k = nI (jm μ k) from h.2.1.1.2.2.2.2.1 k (by omega)]
        exact ⟨_, _, rfl, rfl, t, τ, μ, hz⟩
    · rw [hb2, if_pos (show b2i false = nI 0 from rfl), if_neg (hx 0 (by decide)), if_neg (hx 1 (by decide)), if_neg (hx 2 (by decide))]
      exact ⟨_, _, rfl, rfl, t, τ, μ, hz⟩
  · rw [hb, if_pos (show b2i false = 0 by decide), if_pos (show b2i false = 0 by decide)]
    exact ⟨_, _, rfl, rfl, t, τ, μ, hz⟩
theorem R_child {Mc Md : Mm} (h : Rel Mc Md) (p q : Int32) : ∃ r Md', fX6_child p q Mc = some r ∧ fX7_child p q Md = some (r, Md') ∧ Rel Mc Md' := by
  obtain ⟨t, τ, μ, h⟩ := h
  have hz := h.z
  have hT := h.1.1
  have h6 := hT.2.1.2
  have hI := h.2.1.2.2
  have ein : fX7_in q 0 3 = some (b2i (inB q 4)) := m_inB (B := 3) (by decide) q
  have e13 : (wI Md 0 0 0).1 6 ((13 : Int32)).toNatClampNeg = nI (μ 13) := hz.2.1.2.1 13 (by decide)
  have e14 : (wI Md 0 0 0).1 6 ((14 : Int32)).toNatClampNeg = nI (μ 14) := hz.2.1.2.1 14 (by decide)
  unfold fX6_child fX7_child
  rw [lt_eq, c_isMother hT h.1.2.1, m_isChild hT hz.1.2.2.2, ein, bP_s, bP_s, bP_s, e13, e14, h.2.1.1.2.1, h.2.1.1.2.2.1]
  generalize wI Md 0 0 0 = Mz at *
  rcases isX_cases (τ 1) (by omega) p with ⟨k, hk, rfl, hb⟩ | ⟨hb, hx⟩
  · rw [hb, if_neg (show ¬ b2i true = 0 by decide), if_neg (show ¬ b2i true = 0 by decide), shr_ok hI.2.2.2.2.1.1 (by omega), shr_ok hI.2.2.2.2.2.1.1 (by omega), has_ok hI.2.2.2.2.1.1 (by omega), has_ok hI.2.2.2.2.2.1.1 (by omega), mhas_ok hI.2.2.2.2.2.1.1 (by omega)]
    simp only [ofN, nI_add, bP_s]
    rcases what_cases 4 (by decide) q with ⟨w, hw, rfl, hb2⟩ | ⟨hb2, hx⟩
    · rw [hb2, if_neg (show ¬ b2i true = nI 0 by decide), ix_ok (by omega) (by decide), ix_ok (by omega) (by decide), nI_clamp (by omega), nI_clamp (by omega), hz.2.1.2.1 (15 + k) (by omega)]
      have : w = 0 ∨ w = 1 ∨ w = 2 ∨ w = 3 := by omega
      rcases this with rfl | rfl | rfl | rfl
      · rw [if_pos rfl, if_neg (show ¬ nI 2 ≤ nI 0 by decide), if_pos rfl]
        cases (μ 13).testBit k <;> exact ⟨_, _, rfl, rfl, t, τ, μ, hz⟩
      · rw [if_neg (show ¬ nI 1 = nI 0 by decide), if_pos rfl, if_neg (show ¬ nI 2 ≤ nI 1 by decide), if_neg (show ¬ nI 1 = nI 0 by decide)]
        cases (μ 14).testBit k <;> exact ⟨_, _, rfl, rfl, t, τ, μ, hz⟩
      · rw [if_neg (show ¬ nI 2 = nI 0 by decide), if_neg (show ¬ nI 2 = nI 1 by decide), if_pos rfl, if_pos (show nI 2 ≤ nI 2 by decide), if_neg (show ¬ nI 2 = nI 3 by decide)]
        cases hl : (μ 14).testBit k with
        | false => exact ⟨_, _, rfl, rfl, t, τ, μ, hz⟩
        | true =>
          rw [show Mc.1 6 k = nI (μ (15 + k)) from h.2.1.1.2.2.2.2.2 k (by omega) hl]
          exact ⟨_, _, rfl, rfl, t, τ, μ, hz⟩
      · rw [if_neg (show ¬ nI 3 = nI 0 by decide), if_neg (show ¬ nI 3 = nI 1 by decide), if_neg (show ¬ nI 3 = nI 2 by decide), if_pos rfl, if_pos (show nI 2 ≤ nI 3 by decide), if_pos rfl, c_worksOfChild hT h.1.2.1 h.2.1.1 hI (by omega), m_worksOf hT hz.1.2.2.2 hz.2.1.2.1 hI (by omega)]
        exact ⟨_, _, rfl, rfl, t, τ, μ, hz⟩
    · rw [hb2, if_pos (show b2i false = nI 0 from rfl), if_neg (hx 0 (by decide)), if_neg (hx 1 (by decide)), if_neg (hx 2 (by decide)), if_neg (hx 3 (by decide))]
      exact ⟨_, _, rfl, rfl, t, τ, μ, hz⟩
  · rw [hb, if_pos (show b2i false = 0 by decide), if_pos (show b2i false = 0 by decide)]
    exact ⟨_, _, rfl, rfl, t, τ, μ, hz⟩
theorem R_work {Mc Md : Mm} (h : Rel Mc Md) (p q : Int32) : ∃ r Md', fX6_work p q Mc = some r ∧ fX7_work p q Md = some (r, Md') ∧ Rel Mc Md' := by
  obtain ⟨t, τ, μ, h⟩ := h
  have hz := h.z
  have hT := h.1.1
  have h6 := hT.2.2.1
  have hI := h.2.1.2.2
  have ein : fX7_in q 0 3 = some (b2i (inB q 4)) := m_inB (B := 3) (by decide) q
  unfold fX6_work fX7_work
  rw [lt_eq, c_isWork hT h.1.2.1, m_isWork hT hz.1.2.2.2, ein, bP_s, bP_s, bP_s, c_told h.1.2.1.2.1 h.1.2.1.1]
  simp only [gd_ok h.1.2.1.1]
  generalize wI Md 0 0 0 = Mz at *
  rcases isX_cases (τ 2) (by omega) p with ⟨k, hk, rfl, hb⟩ | ⟨hb, hx⟩
  · rw [hb, if_neg (show ¬ b2i true = 0 by decide), if_neg (show ¬ b2i true = 0 by decide), c_lasts hT h.1.2.1 h.2.1.1 hI hk, m_lasts hT hz.1.2.2.2 hz.2.1.2.1 hI hk, m_whoCan hT hz.1.2.2.2 hz.2.1.2.1 hI hk, show (0 : Int32) = nI 0 from rfl, c_whoCanDo hT h.1.2.1 h.2.1.1 hI hk (by decide)]
    simp only [ofN, nI_add, bP_s]
    have hc := h.1.2.1.2.2.2.2.2.2 k hk
    have hm := hz.1.2.2.2.2.2.2.2 k hk
    rcases what_cases 4 (by decide) q with ⟨w, hw, rfl, hb2⟩ | ⟨hb2, hx⟩
    · rw [hb2, if_neg (show ¬ b2i true = nI 0 by decide), ix_ok (by omega) (by decide), ix_ok (by omega) (by decide), ix_ok (by omega) (by decide), ix_ok (by omega) (by decide), nI_clamp (by omega), hc.1, hc.2, hm.1, hm.2]
      have : w = 0 ∨ w = 1 ∨ w = 2 ∨ w = 3 := by omega
      rcases this with rfl | rfl | rfl | rfl <;> exact ⟨_, _, rfl, rfl, t, τ, μ, hz⟩
    · rw [hb2, if_pos (show b2i false = nI 0 from rfl), if_neg (hx 0 (by decide)), if_neg (hx 1 (by decide)), if_neg (hx 2 (by decide)), if_neg (hx 3 (by decide))]
      exact ⟨_, _, rfl, rfl, t, τ, μ, hz⟩
  · rw [hb, if_pos (show b2i false = 0 by decide), if_pos (show b2i false = 0 by decide)]
    exact ⟨_, _, rfl, rfl, t, τ, μ, hz⟩

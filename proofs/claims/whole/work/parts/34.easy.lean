/-! ===== type, clear, room, child, work, count, trace, sees, forget ===== -/
theorem R_type {Mc Md : Mm} (h : Rel Mc Md) (p : Int32) : ∃ r Mc' Md', fX6_type p Mc = some (r, Mc') ∧ fX7_type p Md = some (r, Md') ∧ Rel Mc' Md' := by
  obtain ⟨t, τ, μ, h⟩ := h
  have ht := isT_2 h.1.2.1.1
  obtain ⟨n, x, hn, h1, h2, h3⟩ := id h.2.2.1
  have e3 : (wI Md 0 0 0).1 0 3 = nI n := by rw [wI_k _ _ _ _ (by decide), h2]
  have ein : fX7_in p 0 255 = some (b2i (inB p 256)) := m_inB (B := 255) (by decide) p
  unfold fX6_type fX7_type
  rw [lt_eq, ein, bP_s, e3, h1]
  rcases isX_cases 256 (by decide) p with ⟨k, hk, rfl, hb⟩ | ⟨hb, hx⟩
  · rw [hb, if_neg (nI_pos (by omega)), if_pos (show nI k ≤ (255 : Int32) from nI_le (b := 255) (by omega) (by decide)), if_neg (show ¬ b2i true = 0 by decide)]
    by_cases h120 : n = 120
    · subst h120
      rw [if_neg (show ¬ nI 120 < (120 : Int32) by decide), if_pos (show nI 120 = (120 : Int32) from rfl)]
      exact ⟨_, _, _, rfl, rfl, t, τ, μ, h.z⟩
    · rw [if_pos (show nI n < (120 : Int32) from nI_lt (b := 120) (by omega) (by decide)), if_neg (show ¬ nI n = (120 : Int32) from fun q => h120 ((nI_eq (b := 120) (by omega) (by decide)).mp q)), ix_ok (by omega) (by decide), lt_eq, lt_eq]
      unfold fX4_add
      rw [h1, ix_ok (by omega) (by decide), lt_eq, lt_eq, bP_s, nI_clamp (by omega)]
      have a1 : (wI Mc 2 n (nI k)).1 1 1 = nI n := by rw [wI_a _ _ _ _ (by decide), h1]
      have a2 : (wI (wI Md 0 0 0) 1 n (nI k)).1 0 3 = nI n := by rw [wI_a _ _ _ _ (by decide), e3]
      rw [a1, a2, nI_1, wI_v, wI_v]
      refine ⟨_, _, _, rfl, rfl, t, τ, μ, (RT_cong h.1 (fun k => (by (try simp only [wI, wL, wA]); (repeat rw [if_neg (by omega)]); (try rfl))) (fun j k q1 q2 => (by (try simp only [wI, wL, wA]); (repeat rw [if_neg (by omega)]); (try rfl))) (fun k q1 => (by (try simp only [wI, wL, wA]); (repeat rw [if_neg (by omega)]); (try rfl))) (fun k q1 => (by (try simp only [wI, wL, wA]); (repeat rw [if_neg (by omega)]); (try rfl))) (fun k q1 => (by (try simp only [wI, wL, wA]); (repeat rw [if_neg (by omega)]); (try rfl)))), (RN_cong h.2.1 (fun j k q1 q2 => (by (try simp only [wI, wL, wA]); (repeat rw [if_neg (by omega)]); (try rfl))) (fun k => (by (try simp only [wI, wL, wA]); (repeat rw [if_neg (by omega)]); (try rfl)))), ⟨n + 1, fun j => if j = n then k else x j, by omega, wI_v _ _ _ _, wI_v _ _ _ _, fun j hj => ?_⟩, (RU_cong h.2.2.2.1 (by (try simp only [wI, wL, wA]); (repeat rw [if_neg (by omega)]); (try rfl)) (by (try simp only [wI, wL, wA]); (repeat rw [if_neg (by omega)]); (try rfl)) (by (try simp only [wI, wL, wA]); (repeat rw [if_neg (by omega)]); (try rfl)) (fun j k q1 q2 => (by (try simp only [wI, wL, wA]); (repeat rw [if_neg (by omega)]); (try rfl))) (fun k => (by (try simp only [wI, wL, wA]); (repeat rw [if_neg (by omega)]); (try rfl)))), (RI_cong h.2.2.2.2.1 (fun k => (by (try simp only [wI, wL, wA]); (repeat rw [if_neg (by omega)]); (try rfl))) (fun k => (by (try simp only [wI, wL, wA]); (repeat rw [if_neg (by omega)]); (try rfl))) (fun j k q1 q2 => (by (try simp only [wI, wL, wA]); (repeat rw [if_neg (by omega)]); (try rfl))) (fun k => (by (try simp only [wI, wL, wA]); (repeat rw [if_neg (by omega)]); (try rfl)))), (RS_cong h.2.2.2.2.2.1 (by (try simp only [wI, wL, wA]); (repeat rw [if_neg (by omega)]); (try rfl)) (by (try simp only [wI, wL, wA]); (repeat rw [if_neg (by omega)]); (try rfl)) (fun k => (by (try simp only [wI, wL, wA]); (repeat rw [if_neg (by omega)]); (try rfl))) (fun k => (by (try simp only [wI, wL, wA]); (repeat rw [if_neg (by omega)]); (try rfl))) (fun k => (by (try simp only [wI, wL, wA]); (repeat rw [if_neg (by omega)]); (try rfl))) (fun k => (by (try simp only [wI, wL, wA]); (repeat rw [if_neg (by omega)]); (try rfl)))), h.2.2.2.2.2.2⟩
      by_cases e : j = n
      · subst e
        simp [wI]
        omega
      · have := h3 j (by omega)
        simp [wI, e, this]
  · rw [hb, if_pos (show b2i false = 0 by decide)]
    rcases hx with hx | ⟨hx, hy⟩
    · rw [if_pos hx]
      exact ⟨_, _, _, rfl, rfl, t, τ, μ, h.z⟩
    · rw [if_neg hx, if_neg (show ¬ p ≤ (255 : Int32) from fun q => absurd ((le_pred (B := 255) (by decide)).mp q) (Int32.not_lt.mpr hy))]
      exact ⟨_, _, _, rfl, rfl, t, τ, μ, h.z⟩
theorem R_clear {Mc Md : Mm} (h : Rel Mc Md) : ∃ r Mc' Md', fX6_clear Mc = some (r, Mc') ∧ fX7_clear Md = some (r, Md') ∧ Rel Mc' Md' := by
  obtain ⟨t, τ, μ, h⟩ := h
  have ht := isT_2 h.1.2.1.1
  obtain ⟨n, x, hn, h1, h2, h3⟩ := id h.2.2.1
  have e3 : (wI Md 0 0 0).1 0 3 = nI n := by rw [wI_k _ _ _ _ (by decide), h2]
  unfold fX6_clear fX7_clear
  rw [lt_eq, lt_eq, lt_eq, e3, h1]
  refine ⟨_, _, _, rfl, rfl, t, τ, μ, (RT_cong h.1 (fun k => (by (try simp only [wI, wL, wA]); (repeat rw [if_neg (by omega)]); (try rfl))) (fun j k q1 q2 => (by (try simp only [wI, wL, wA]); (repeat rw [if_neg (by omega)]); (try rfl))) (fun k q1 => (by (try simp only [wI, wL, wA]); (repeat rw [if_neg (by omega)]); (try rfl))) (fun k q1 => (by (try simp only [wI, wL, wA]); (repeat rw [if_neg (by omega)]); (try rfl))) (fun k q1 => (by (try simp only [wI, wL, wA]); (repeat rw [if_neg (by omega)]); (try rfl)))), (RN_cong h.2.1 (fun j k q1 q2 => (by (try simp only [wI, wL, wA]); (repeat rw [if_neg (by omega)]); (try rfl))) (fun k => (by (try simp only [wI, wL, wA]); (repeat rw [if_neg (by omega)]); (try rfl)))), ⟨0, x, by omega, wI_v _ _ _ _, wI_v _ _ _ _, fun j hj => absurd hj (by omega)⟩, (RU_cong h.2.2.2.1 (by (try simp only [wI, wL, wA]); (repeat rw [if_neg (by omega)]); (try rfl)) (by (try simp only [wI, wL, wA]); (repeat rw [if_neg (by omega)]); (try rfl)) (by (try simp only [wI, wL, wA]); (repeat rw [if_neg (by omega)]); (try rfl)) (fun j k q1 q2 => (by (try simp only [wI, wL, wA]); (repeat rw [if_neg (by omega)]); (try rfl))) (fun k => (by (try simp only [wI, wL, wA]); (repeat rw [if_neg (by omega)]); (try rfl)))), (RI_cong h.2.2.2.2.1 (fun k => (by (try simp only [wI, wL, wA]); (repeat rw [if_neg (by omega)]); (try rfl))) (fun k => (by (try simp only [wI, wL, wA]); (repeat rw [if_neg (by omega)]); (try rfl))) (fun j k q1 q2 => (by (try simp only [wI, wL, wA]); (repeat rw [if_neg (by omega)]); (try rfl))) (fun k => (by (try simp only [wI, wL, wA]); (repeat rw [if_neg (by omega)]); (try rfl)))), (RS_cong h.2.2.2.2.2.1 (by (try simp only [wI, wL, wA]); (repeat rw [if_neg (by omega)]); (try rfl)) (by (try simp only [wI, wL, wA]); (repeat rw [if_neg (by omega)]); (try rfl)) (fun k => (by (try simp only [wI, wL, wA]); (repeat rw [if_neg (by omega)]); (try rfl))) (fun k => (by (try simp only [wI, wL, wA]); (repeat rw [if_neg (by omega)]); (try rfl))) (fun k => (by (try simp only [wI, wL, wA]); (repeat rw [if_neg (by omega)]); (try rfl))) (fun k => (by (try simp only [wI, wL, wA]); (repeat rw [if_neg (by omega)]); (try rfl)))), h.2.2.2.2.2.2⟩
theorem R_forget {Mc Md : Mm} (h : Rel Mc Md) : ∃ r Mc' Md', fX6_forget Mc = some (r, Mc') ∧ fX7_forget Md = some (r, Md') ∧ Rel Mc' Md' := by
  obtain ⟨t, τ, μ, h⟩ := h
  have ht := isT_2 h.1.2.1.1
  obtain ⟨n, sw, sb, hn, h1, h2, h3⟩ := id h.2.2.2.2.2.1
  have e3 : (wI Md 0 0 0).1 0 21 = nI n := by rw [wI_k _ _ _ _ (by decide), h2]
  unfold fX6_forget fX7_forget
  rw [lt_eq, lt_eq, lt_eq, e3, h1]
  refine ⟨_, _, _, rfl, rfl, t, τ, μ, (RT_cong h.1 (fun k => (by (try simp only [wI, wL, wA]); (repeat rw [if_neg (by omega)]); (try rfl))) (fun j k q1 q2 => (by (try simp only [wI, wL, wA]); (repeat rw [if_neg (by omega)]); (try rfl))) (fun k q1 => (by (try simp only [wI, wL, wA]); (repeat rw [if_neg (by omega)]); (try rfl))) (fun k q1 => (by (try simp only [wI, wL, wA]); (repeat rw [if_neg (by omega)]); (try rfl))) (fun k q1 => (by (try simp only [wI, wL, wA]); (repeat rw [if_neg (by omega)]); (try rfl)))), (RN_cong h.2.1 (fun j k q1 q2 => (by (try simp only [wI, wL, wA]); (repeat rw [if_neg (by omega)]); (try rfl))) (fun k => (by (try simp only [wI, wL, wA]); (repeat rw [if_neg (by omega)]); (try rfl)))), (RX_cong h.2.2.1 (by (try simp only [wI, wL, wA]); (repeat rw [if_neg (by omega)]); (try rfl)) (fun k => (by (try simp only [wI, wL, wA]); (repeat rw [if_neg (by omega)]); (try rfl))) (by (try simp only [wI, wL, wA]); (repeat rw [if_neg (by omega)]); (try rfl)) (fun k => (by (try simp only [wI, wL, wA]); (repeat rw [if_neg (by omega)]); (try rfl)))), (RU_cong h.2.2.2.1 (by (try simp only [wI, wL, wA]); (repeat rw [if_neg (by omega)]); (try rfl)) (by (try simp only [wI, wL, wA]); (repeat rw [if_neg (by omega)]); (try rfl)) (by (try simp only [wI, wL, wA]); (repeat rw [if_neg (by omega)]); (try rfl)) (fun j k q1 q2 => (by (try simp only [wI, wL, wA]); (repeat rw [if_neg (by omega)]); (try rfl))) (fun k => (by (try simp only [wI, wL, wA]); (repeat rw [if_neg (by omega)]); (try rfl)))), (RI_cong h.2.2.2.2.1 (fun k => (by (try simp only [wI, wL, wA]); (repeat rw [if_neg (by omega)]); (try rfl))) (fun k => (by (try simp only [wI, wL, wA]); (repeat rw [if_neg (by omega)]); (try rfl))) (fun j k q1 q2 => (by (try simp only [wI, wL, wA]); (repeat rw [if_neg (by omega)]); (try rfl))) (fun k => (by (try simp only [wI, wL, wA]); (repeat rw [if_neg (by omega)]); (try rfl)))), ⟨0, sw, sb, by omega, wI_v _ _ _ _, wI_v _ _ _ _, fun j hj => absurd hj (by omega)⟩, h.2.2.2.2.2.2⟩
theorem R_trace {Mc Md : Mm} (h : Rel Mc Md) : ∃ r Md', fX6_trace Mc = some r ∧ fX7_trace Md = some (r, Md') ∧ Rel Mc Md' := by
  refine ⟨Md.2, wI Md 0 0 0, ?_, rfl, h.z⟩
  obtain ⟨t, τ, μ, h⟩ := h
  unfold fX6_trace
  rw [h.2.2.2.2.2.2]
theorem R_sees {Mc Md : Mm} (h : Rel Mc Md) (p q : Int32) : ∃ r Mc' Md', fX6_sees p q Mc = some (r, Mc') ∧ fX7_sees p q Md = some (r, Md') ∧ Rel Mc' Md' := by
  obtain ⟨t, τ, μ, h⟩ := h
  have ht := isT_2 h.1.2.1.1
  have hz := h.z
  obtain ⟨n, sw, sb, hn, h1, h2, h3⟩ := id h.2.2.2.2.2.1
  have e3 : (wI Md 0 0 0).1 0 21 = nI n := by rw [wI_k _ _ _ _ (by decide), h2]
  have ein : fX7_in q 0 1 = some (b2i (inB q 2)) := m_inB (B := 1) (by decide) q
  unfold fX6_sees fX7_sees
  rw [lt_eq, c_isWork h.1.1 h.1.2.1, m_isWork h.1.1 hz.1.2.2.2, ein, bP_s, bP_s, bP_s, e3, h1]
  rcases isX_cases (τ 2) (by have := h.1.1.2.2.1; omega) p with ⟨w, hw, rfl, hb⟩ | ⟨hb, hx⟩
  · rw [hb, if_neg (show ¬ b2i true = 0 by decide), if_neg (show ¬ b2i true = 0 by decide)]
    rcases isX_cases 2 (by decide) q with ⟨k, hk, rfl, hb2⟩ | ⟨hb2, hx⟩
    · rw [hb2, if_neg (nI_pos (by omega)), if_pos (show nI k ≤ (1 : Int32) from nI_le (b := 1) (by omega) (by decide)), if_neg (show ¬ b2i true = 0 by decide)]
      by_cases h6 : n = 6
      · subst h6
        rw [if_neg (show ¬ nI 6 < (6 : Int32) by decide), if_pos (show nI 6 = (6 : Int32) from rfl)]
        exact ⟨_, _, _, rfl, rfl, t, τ, μ, h.z⟩
      · have ek : nI k = b2i (decide (k = 1)) := by
          have : k = 0 ∨ k = 1 := by omega
          rcases this with rfl | rfl <;> rfl
        have ek2 : (if nI k = (1 : Int32) then some (1 : Int32) else some 0) = some (nI k) := by
          have : k = 0 ∨ k = 1 := by omega
          rcases this with rfl | rfl <;> rfl
        rw [if_pos (show nI n < (6 : Int32) from nI_lt (b := 6) (by omega) (by decide)), if_neg (show ¬ nI n = (6 : Int32) from fun q => h6 ((nI_eq (b := 6) (by omega) (by decide)).mp q)), ek2, bP_s, ix_ok (by omega) (by decide), lt_eq, nI_clamp (by omega)]
        have ezb : ∀ x : Option Mm, zb (nI k) x = x := fun x => by rw [ek]; exact zb_b
        unfold fX3_add
        have a1 : (wI Mc 62 n (nI w)).1 61 2 = nI n := by rw [wI_a _ _ _ _ (by decide), h1]
        have a2 : (wI (wI Mc 62 n (nI w)) 63 n (nI k)).1 61 2 = nI n := by rw [wI_a _ _ _ _ (by decide), a1]
        have b1 : (wI (wI Md 0 0 0) 10 n (nI w)).1 0 21 = nI n := by rw [wI_a _ _ _ _ (by decide), e3]
        have b2 : (wI (wI (wI Md 0 0 0) 10 n (nI w)) 11 n (nI k)).1 0 21 = nI n := by rw [wI_a _ _ _ _ (by decide), b1]
        rw [h1, ix_ok (by omega) (by decide), lt_eq, nI_clamp (by omega), a1, ix_ok (by omega) (by decide), nI_clamp (by omega), lt_eq, a2, lt_eq, ezb, bP_s, b1, ix_ok (by omega) (by decide), nI_clamp (by omega), lt_eq, b2, lt_eq]
        rw [nI_1, wI_v, wI_v]
        refine ⟨_, _, _, rfl, rfl, t, τ, μ, (RT_cong h.1 (fun k => (by (try simp only [wI, wL, wA]); (repeat rw [if_neg (by omega)]); (try rfl))) (fun j k q1 q2 => (by (try simp only [wI, wL, wA]); (repeat rw [if_neg (by omega)]); (try rfl))) (fun k q1 => (by (try simp only [wI, wL, wA]); (repeat rw [if_neg (by omega)]); (try rfl))) (fun k q1 => (by (try simp only [wI, wL, wA]); (repeat rw [if_neg (by omega)]); (try rfl))) (fun k q1 => (by (try simp only [wI, wL, wA]); (repeat rw [if_neg (by omega)]); (try rfl)))), (RN_cong h.2.1 (fun j k q1 q2 => (by (try simp only [wI, wL, wA]); (repeat rw [if_neg (by omega)]); (try rfl))) (fun k => (by (try simp only [wI, wL, wA]); (repeat rw [if_neg (by omega)]); (try rfl)))), (RX_cong h.2.2.1 (by (try simp only [wI, wL, wA]); (repeat rw [if_neg (by omega)]); (try rfl)) (fun k => (by (try simp only [wI, wL, wA]); (repeat rw [if_neg (by omega)]); (try rfl))) (by (try simp only [wI, wL, wA]); (repeat rw [if_neg (by omega)]); (try rfl)) (fun k => (by (try simp only [wI, wL, wA]); (repeat rw [if_neg (by omega)]); (try rfl)))), (RU_cong h.2.2.2.1 (by (try simp only [wI, wL, wA]); (repeat rw [if_neg (by omega)]); (try rfl)) (by (try simp only [wI, wL, wA]); (repeat rw [if_neg (by omega)]); (try rfl)) (by (try simp only [wI, wL, wA]); (repeat rw [if_neg (by omega)]); (try rfl)) (fun j k q1 q2 => (by (try simp only [wI, wL, wA]); (repeat rw [if_neg (by omega)]); (try rfl))) (fun k => (by (try simp only [wI, wL, wA]); (repeat rw [if_neg (by omega)]); (try rfl)))), (RI_cong h.2.2.2.2.1 (fun k => (by (try simp only [wI, wL, wA]); (repeat rw [if_neg (by omega)]); (try rfl))) (fun k => (by (try simp only [wI, wL, wA]); (repeat rw [if_neg (by omega)]); (try rfl))) (fun j k q1 q2 => (by (try simp only [wI, wL, wA]); (repeat rw [if_neg (by omega)]); (try rfl))) (fun k => (by (try simp only [wI, wL, wA]); (repeat rw [if_neg (by omega)]); (try rfl)))), ⟨n + 1, fun j => if j = n then w else sw j, fun j => if j = n then decide (k = 1) else sb j, by omega, wI_v _ _ _ _, wI_v _ _ _ _, fun j hj => ?_⟩, h.2.2.2.2.2.2⟩
        by_cases e : j = n
        · subst e
          simp only [wI, if_true, ← ek]
          simp [hw]
        · have := h3 j (by omega)
          simp only [wI, if_neg e]
          simp [e, this]
    · rw [hb2, if_pos (show b2i false = 0 by decide)]
      rcases hx with hx | ⟨hx, hy⟩
      · rw [if_pos hx]
        exact ⟨_, _, _, rfl, rfl, t, τ, μ, h.z⟩
      · rw [if_neg hx, if_neg (show ¬ q ≤ (1 : Int32) from fun z => absurd ((le_pred (B := 1) (by decide)).mp z) (Int32.not_lt.mpr hy))]
        exact ⟨_, _, _, rfl, rfl, t, τ, μ, h.z⟩
  · rw [hb, if_pos (show b2i false = 0 by decide), if_pos (show b2i false = 0 by decide)]
    exact ⟨_, _, _, rfl, rfl, t, τ, μ, h.z⟩

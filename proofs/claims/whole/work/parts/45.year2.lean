/-! ===== year, the reference's side; the two ===== -/
theorem m_yearL1 {M0 : Mm} {τ μ : Nat → Nat} (hT : TI τ) (hc : MTt M0 τ) (hm : MMr (M0.1 6) μ) : ∃ M', fX7_year_L35 50000 0 M0 = some (nI (τ 0), M') ∧ far6 M0 M' ∧ MMr (M'.1 6) (oU μ (τ 0)) := by
  have h6 := hT.1
  obtain ⟨b, hb, h1, h2, h3⟩ := loop_inv0 (fun m (q : Int32 × Mm) => fX7_year_L35 m q.1 q.2) (fun k q => q.1 = nI k ∧ far6 M0 q.2 ∧ MMr (q.2.1 6) (oU μ k)) (τ 0) (fun b => b.1 = nI (τ 0) ∧ far6 M0 b.2 ∧ MMr (b.2.1 6) (oU μ (τ 0))) (n := 50000) (s := (nI 0, M0)) (by omega) ⟨rfl, far6.r _, by rw [oU_0]; exact hm⟩
    (fun n s hs => by
      obtain ⟨x, M⟩ := s
      obtain ⟨s1, s2, s3⟩ := hs
      dsimp only at s1 s2 s3
      subst s1
      have hct := s2.MTt hc
      dsimp only
      rw [fX7_year_L35, show M.1 2 ((0 : Int32)).toNatClampNeg = nI (τ 0) from hct.1, if_pos (Int32.le_refl _)]
      exact ⟨_, rfl, rfl, s2, s3⟩)
    (fun n k s hk hs => by
      obtain ⟨x, M⟩ := s
      obtain ⟨s1, s2, s3⟩ := hs
      dsimp only at s1 s2 s3
      subst s1
      have hct := s2.MTt hc
      have ho : M.1 6 (1 + k) = nI (μ (1 + k)) := (s3 (1 + k) (by omega)).trans (by rw [show oU μ k (1 + k) = μ (1 + k) from if_neg (by omega)])
      dsimp only
      rw [fX7_year_L35, show M.1 2 ((0 : Int32)).toNatClampNeg = nI (τ 0) from hct.1, if_neg (nI_ge hk (by omega)), show (1 : Int32) = nI 1 from rfl, nI_add, ix_ok (by omega) (by decide), ix_ok (by omega) (by decide), nI_clamp (by omega), ho, nI_add, lt_eq, nI_add]
      refine ⟨(nI (k + 1), _), rfl, rfl, s2.w, ?_⟩
      rw [← oU_s]
      exact MM_w s3)
  obtain ⟨b1, b2⟩ := b
  dsimp only at h1 h2 h3
  subst h1
  exact ⟨b2, hb, h2, h3⟩
theorem m_yearL2 {M0 : Mm} {τ μ : Nat → Nat} (hT : TI τ) (hc : MTt M0 τ) (hm : MMr (M0.1 6) μ) (h14 : μ 14 < 64) (hI : ∀ c, (μ 14).testBit c = true → μ (15 + c) < τ 3) : ∃ M', fX7_year_L67 50000 0 0 M0 = some (nI (cn (τ 1) (dies τ μ)), nI (τ 1), M') ∧ far6 M0 M' ∧ MMr (M'.1 6) (yU τ μ (τ 1)) := by
  have h6 := hT.2.1.2
  have h3 := hT.2.2.2.1
  obtain ⟨b, hb, h1, h2, h3, h4⟩ := loop_inv0 (fun m (q : Int32 × Int32 × Mm) => fX7_year_L67 m q.1 q.2.1 q.2.2) (fun k q => q.1 = nI (cn k (dies τ μ)) ∧ q.2.1 = nI k ∧ far6 M0 q.2.2 ∧ MMr (q.2.2.1 6) (yU τ μ k)) (τ 1) (fun b => b.1 = nI (cn (τ 1) (dies τ μ)) ∧ b.2.1 = nI (τ 1) ∧ far6 M0 b.2.2 ∧ MMr (b.2.2.1 6) (yU τ μ (τ 1))) (n := 50000) (s := (nI 0, nI 0, M0)) (by omega) ⟨rfl, rfl, far6.r _, by rw [yU_0 τ h14]; exact hm⟩
    (fun n s hs => by
      obtain ⟨y, x, M⟩ := s
      obtain ⟨s0, s1, s2, s3⟩ := hs
      dsimp only at s0 s1 s2 s3
      subst s1
      have hct := s2.MTt hc
      dsimp only
      rw [fX7_year_L67, show M.1 2 ((1 : Int32)).toNatClampNeg = nI (τ 1) from hct.2.1, if_pos (Int32.le_refl _)]
      exact ⟨_, rfl, s0, rfl, s2, s3⟩)
    (fun n k s hk hs => by
      obtain ⟨y, x, M⟩ := s
      obtain ⟨s0, s1, s2, s3⟩ := hs
      dsimp only at s0 s1 s2 s3
      subst s1
      subst s0
      have hct := s2.MTt hc
      have hl : M.1 6 14 = nI (lv τ μ k) := s3 14 (by decide)
      have hk6 : k < 6 := by omega
      have hbit : (lv τ μ k).testBit k = (μ 14).testBit k := by rw [lv_bit]; simp [hk6]
      dsimp only
      rw [fX7_year_L67, show M.1 2 ((1 : Int32)).toNatClampNeg = nI (τ 1) from hct.2.1, if_neg (nI_ge hk (by omega)), c14, hl, mhas_ok (lvs_lt _ _ _) hk6, bP_s, hbit, nI_1, cn]
      rcases Bool.eq_false_or_eq_true ((μ 14).testBit k) with hp | hp
      · have ho : M.1 6 (15 + k) = nI (μ (15 + k)) := (s3 (15 + k) (by omega)).trans (by rw [yU_15])
        have hag := hI k hp
        have ha := MM_w s3 (k := 15 + k) (v := μ (15 + k) + 1)
        have w14 : (wI M 6 (15 + k) (nI (μ (15 + k) + 1))).1 6 14 = nI (lv τ μ k) := by rw [wI_k _ _ _ _ (by omega), hl]
        have f3 : (wI M 6 (15 + k) (nI (μ (15 + k) + 1))).1 2 ((3 : Int32)).toNatClampNeg = nI (τ 3) := by rw [wI_a _ _ _ _ (by decide)]; exact hct.2.2.2.1
        rw [hp, if_neg (show ¬ b2i true = 0 by decide), show (15 : Int32) = nI 15 from rfl, nI_add, ix_ok (by omega) (by decide), ix_ok (by omega) (by decide), nI_clamp (by omega), ho, nI_1, lt_eq, ix_ok (by omega) (by decide), wI_v, f3, w14, and_m1]
        by_cases hlt : μ (15 + k) + 1 < τ 3
        · rw [if_neg (fun z => absurd ((nI_eq (by omega) (by omega)).mp z) (by omega)), if_pos rfl, lt_eq, if_pos rfl, show (0 : Int32) = nI 0 from rfl, nI_add]
          have hd : dies τ μ k = false := by simp [dies, hp]; omega
          refine ⟨(_, nI (k + 1), _), rfl, by rw [hd]; rfl, rfl, s2.w.w, ?_⟩
          rw [← yU_s τ hp, lv_yes τ hlt]
          exact MM_w ha
        · rw [if_pos (show nI (μ (15 + k) + 1) = nI (τ 3) by rw [show μ (15 + k) + 1 = τ 3 by omega]), if_neg (show ¬ (1 : Int32) = 0 by decide), s_bit 0 k (by omega), wo_ok (lvs_lt _ _ _) hk6, lt_eq, ← lv_die τ hlt, if_neg (show ¬ (1 : Int32) = 0 by decide), nI_1]
          have hd : dies τ μ k = true := by simp [dies, hp]; omega
          refine ⟨(_, nI (k + 1), _), rfl, by rw [hd]; rfl, rfl, s2.w.w, ?_⟩
          rw [← yU_s τ hp]
          exact MM_w ha
      · have hd : dies τ μ k = false := by simp [dies, hp]
        rw [hp, if_pos (show b2i false = 0 by decide)]
        refine ⟨(_, nI (k + 1), _), rfl, by rw [hd]; rfl, rfl, s2, ?_⟩
        rw [yU_no τ hp]
        exact s3)
  obtain ⟨b1, b2, b3⟩ := b
  dsimp only at h1 h2 h3 h4
  subst h1
  subst h2
  exact ⟨b3, hb, h3, h4⟩
theorem oU_hi (μ : Nat → Nat) {k i : Nat} (h : i = 0 ∨ k < i) : oU μ k i = μ i := if_neg (by omega)
def yearN (τ μ : Nat → Nat) : Nat → Nat := yU τ (oU (uN μ 0 (μ 0 + 1)) (τ 0)) (τ 1)
theorem year_MI {τ μ : Nat → Nat} (hT : TI τ) (h : MI τ μ) (hy : μ 0 < 99) : MI τ (yearN τ μ) := by
  have h60 := hT.1
  have h61 := hT.2.1.2
  have hlf := hT.2.2.2.1
  obtain ⟨h1, h2, h3, h4, ⟨h5, h6⟩, ⟨h7, h8⟩, h9⟩ := h
  have e7 : ∀ i, 6 < i → oU (uN μ 0 (μ 0 + 1)) (τ 0) i = μ i := fun i hi => by rw [oU_hi _ (by omega), uN_k _ _ _ (by omega)]
  have e0 : yearN τ μ 0 = μ 0 + 1 := by
    unfold yearN
    rw [yU_lo _ _ _ (by omega), oU_hi _ (by omega), uN_v]
  have e1 : ∀ r, r < 6 → yearN τ μ (1 + r) ≤ μ (1 + r) + 1 := fun r hr => by
    unfold yearN
    rw [yU_lo _ _ _ (by omega)]
    unfold oU
    rw [uN_k _ _ _ (by omega)]
    split <;> omega
  have e7' : ∀ r, r < 6 → yearN τ μ (7 + r) = μ (7 + r) := fun r hr => by
    unfold yearN
    rw [yU_lo _ _ _ (by omega), e7 _ (by omega)]
  have e13 : yearN τ μ 13 = μ 13 := by
    unfold yearN
    rw [yU_lo _ _ _ (by omega), e7 _ (by omega)]
  have e14 : yearN τ μ 14 = lv τ (oU (uN μ 0 (μ 0 + 1)) (τ 0)) (τ 1) := rfl
  have e15 : ∀ c, yearN τ μ (15 + c) = if c < τ 1 ∧ (μ 14).testBit c = true then μ (15 + c) + 1 else μ (15 + c) := fun c => by
    unfold yearN yU
    rw [if_neg (by omega), e7 14 (by omega), e7 (15 + c) (by omega), show 15 + c - 15 = c by omega]
    by_cases q : c < τ 1 ∧ (μ 14).testBit c = true
    · rw [if_pos q, if_pos ⟨by omega, by omega, q.2⟩]
    · rw [if_neg q, if_neg (fun z => q ⟨by omega, z.2.2⟩)]
  have hb : ∀ c, (yearN τ μ 14).testBit c = true → (μ 14).testBit c = true ∧ (τ 1 ≤ c ∨ μ (15 + c) + 1 < τ 3) := fun c hc => by
    rw [e14, lv_bit, e7 14 (by omega), e7 (15 + c) (by omega)] at hc
    simp at hc
    exact hc.2
  refine ⟨by omega, fun r hr => ?_, fun r hr => ?_, fun r q1 q2 => ?_, ⟨by rw [e13]; exact h5, fun k hk => ?_⟩, ⟨by rw [e14]; exact lvs_lt _ _ _, fun k hk => ?_⟩, fun c hc => ?_⟩
  · have := h2 r hr
    have := e1 r hr
    omega
  · have := h3 r hr
    rw [e7' r hr, e7' _ (by omega)]
    exact this
  · rw [e7' r q2]
    exact h4 r q1 q2
  · rw [e13] at hk
    exact h6 k hk
  · obtain ⟨b1, b2⟩ := hb k hk
    have := h8 k b1
    refine ⟨by rw [e13]; exact this.1, ?_⟩
    have := h6 k this.1
    rw [e15]
    split <;> omega
  · have := h9 c hc
    rw [e15]
    split
    · next q => 
      have := h8 c q.2
      omega
    · exact this
theorem R_year {Mc Md : Mm} (h : Rel Mc Md) : ∃ r Mc' Md', fX6_year Mc = some (r, Mc') ∧ fX7_year Md = some (r, Md') ∧ Rel Mc' Md' := by
  obtain ⟨t, τ, μ, h⟩ := h
  have hz := h.z
  have hT := h.1.1
  have hI := h.2.1.2.2
  have hy := hI.1
  have e0 : (wI Md 0 0 0).1 6 ((0 : Int32)).toNatClampNeg = nI (μ 0) := hz.2.1.2.1 0 (by decide)
  unfold fX6_year fX7_year
  rw [lt_eq, e0, h.2.1.1.1]
  generalize wI Md 0 0 0 = Mz at *
  by_cases h99 : μ 0 = 99
  · rw [h99, if_neg (show ¬ nI 99 < 99 by decide), if_pos (show nI 99 = 99 from rfl)]
    exact ⟨_, _, _, rfl, rfl, t, τ, μ, hz⟩
  · obtain ⟨Nc, Nd, n1, n2, hn⟩ := R_rem hz
    have f0 : Nd.1 6 ((0 : Int32)).toNatClampNeg = nI (μ 0) := hn.2.1.2.1 0 (by decide)
    have cy := CM_year hn.2.1.1 (v := μ 0 + 1)
    have my := MM_w hn.2.1.2.1 (k := 0) (v := μ 0 + 1)
    have ct := (far.w (far.r Nc) (a := 3) (k := 3) (v := nI (μ 0 + 1)) (by omega)).CTt hn.1.2.1
    have mt := (far6.w (far6.r Nd) (k := 0) (v := nI (μ 0 + 1))).MTt hn.1.2.2.2
    have a14 : uN μ 0 (μ 0 + 1) 14 = μ 14 := rfl
    obtain ⟨C1, c1, c2, c3⟩ := c_yearL1 hT ct cy (fun r hr => by rw [uN_k _ _ _ (by omega)]; have := hI.2.1 r hr; omega)
    obtain ⟨D1, d1, d2, d3⟩ := m_yearL1 hT mt my
    have g14 : oU (uN μ 0 (μ 0 + 1)) (τ 0) 14 = μ 14 := by rw [oU_hi _ (by have := hT.1; omega), uN_k _ _ _ (by decide)]
    have hag : ∀ c, (oU (uN μ 0 (μ 0 + 1)) (τ 0) 14).testBit c = true → oU (uN μ 0 (μ 0 + 1)) (τ 0) (15 + c) < τ 3 := fun c hb => by
      rw [g14] at hb
      rw [oU_hi _ (by have := hT.1; omega), uN_k _ _ _ (by omega)]
      exact (hI.2.2.2.2.2.1.2 c hb).2
    obtain ⟨C2, c4, c5, c6⟩ := c_yearL2 hT (c2.CTt ct) c3 (by rw [g14]; exact hI.2.2.2.2.2.1.1) hag
    obtain ⟨D2, d4, d5, d6⟩ := m_yearL2 hT (d2.MTt mt) d3 (by rw [g14]; exact hI.2.2.2.2.2.1.1) hag
    rw [if_pos (show nI (μ 0) < 99 from nI_lt (b := 99) (by omega) (by decide)), if_neg (show ¬ nI (μ 0) = 99 from fun z => h99 ((nI_eq (b := 99) (by omega) (by decide)).mp z)), n1, n2, bP_s, bP_s, f0, nI_1, lt_eq, show (0 : Int32).toNatClampNeg = 0 by decide, d1, b2_s, d4, b3_s, c_told hn.1.2.1.2.1 hn.1.2.1.1, gd_ok hn.1.2.1.1]
    unfold fX1_passYear
    rw [hn.2.1.1.1, nI_1, lt_eq, c1, b2_s, c4, b3_s, b2_s]
    refine ⟨_, _, _, rfl, rfl, t, τ, yearN τ μ, hn.now (fun j k q => ?_) (fun j k q => ?_) ⟨c6, d6, year_MI hT hI (by omega)⟩ ?_ ?_⟩
    · rw [c5.2 j k q, c2.2 j k q, wI_a _ _ _ _ (by omega)]
    · rw [d5.2 j k q, d2.2 j k q, wI_a _ _ _ _ q]
    · rw [c5.1, c2.1]
      rfl
    · rw [d5.1, d2.1]
      rfl

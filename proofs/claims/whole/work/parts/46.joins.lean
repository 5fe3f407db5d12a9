/-! ===== joins ===== -/
def unM (μ : Nat → Nat) (p q : Nat) : Nat := jm μ p ||| jm μ q
def joinN (μ : Nat → Nat) (p q k : Nat) : Nat → Nat := fun i => if 7 ≤ i ∧ i < 7 + k ∧ (μ i = μ (7 + p) ∨ μ i = μ (7 + q)) then Nat.min (μ (7 + p)) (μ (7 + q)) else μ i
theorem jm_b (μ : Nat → Nat) (r k : Nat) : (jm μ r).testBit k = (decide (k < 6) && (μ (7 + k) == μ (7 + r))) := mk_bit _ 6 k
theorem un_b (μ : Nat → Nat) (p q k : Nat) : (unM μ p q).testBit k = (decide (k < 6) && ((μ (7 + k) == μ (7 + p)) || (μ (7 + k) == μ (7 + q)))) := by
  unfold unM
  rw [Nat.testBit_or, jm_b, jm_b]
  cases decide (k < 6) <;> rfl
theorem un_lt (μ : Nat → Nat) (p q : Nat) : unM μ p q < 64 := or_lt (jm_lt μ p) (jm_lt μ q)
theorem min_or (a b : Nat) : Nat.min a b = a ∨ Nat.min a b = b := by
  rw [show Nat.min a b = min a b from rfl]
  omega
theorem join_jm (μ : Nat → Nat) (p q : Nat) {r : Nat} (hr : r < 6) : jm (joinN μ p q 6) r = if (unM μ p q).testBit r = true then unM μ p q else jm μ r := by
  have hm := min_or (μ (7 + p)) (μ (7 + q))
  have e : ∀ k, k < 6 → joinN μ p q 6 (7 + k) = if μ (7 + k) = μ (7 + p) ∨ μ (7 + k) = μ (7 + q) then Nat.min (μ (7 + p)) (μ (7 + q)) else μ (7 + k) := fun k hk => by
    unfold joinN
    by_cases z : μ (7 + k) = μ (7 + p) ∨ μ (7 + k) = μ (7 + q)
    · rw [if_pos z, if_pos ⟨by omega, by omega, z⟩]
    · rw [if_neg z, if_neg (fun y => z y.2.2)]
  have hb : (unM μ p q).testBit r = true ↔ (μ (7 + r) = μ (7 + p) ∨ μ (7 + r) = μ (7 + q)) := by
    rw [un_b]
    simp [hr]
  refine bits_ext (jm_lt _ _) (by split; exact un_lt _ _ _; exact jm_lt _ _) (fun k hk => ?_)
  rw [jm_b, e k hk, e r hr]
  generalize Nat.min (μ (7 + p)) (μ (7 + q)) = m at *
  by_cases z : μ (7 + r) = μ (7 + p) ∨ μ (7 + r) = μ (7 + q)
  · rw [if_pos z, if_pos (hb.mpr z), un_b]
    by_cases y : μ (7 + k) = μ (7 + p) ∨ μ (7 + k) = μ (7 + q)
    · rw [if_pos y]
      rcases y with y | y <;> simp [hk, y]
    · rw [if_neg y]
      have : ¬ μ (7 + k) = m := fun w => y (by rcases hm with h | h <;> omega)
      have y1 : ¬ μ (7 + k) = μ (7 + p) := fun w => y (Or.inl w)
      have y2 : ¬ μ (7 + k) = μ (7 + q) := fun w => y (Or.inr w)
      simp [hk, beq_false_of_ne this, beq_false_of_ne y1, beq_false_of_ne y2]
  · rw [if_neg z, if_neg (fun w => z (hb.mp w)), jm_b]
    by_cases y : μ (7 + k) = μ (7 + p) ∨ μ (7 + k) = μ (7 + q)
    · rw [if_pos y]
      have h1 : ¬ m = μ (7 + r) := fun w => z (by rcases hm with h | h <;> omega)
      have h2 : ¬ μ (7 + k) = μ (7 + r) := fun w => z (by rcases y with h | h <;> omega)
      simp [hk, beq_false_of_ne h1, beq_false_of_ne h2]
    · rw [if_neg y]
theorem join_o (μ : Nat → Nat) (p q k : Nat) {i : Nat} (h : i < 7 ∨ 7 + k ≤ i) : joinN μ p q k i = μ i := if_neg (by omega)
theorem join_MI {τ μ : Nat → Nat} (hT : TI τ) (hI : MI τ μ) {p q : Nat} (hp : p < τ 0) (hq : q < τ 0) : MI τ (joinN μ p q 6) := by
  have h60 := hT.1
  obtain ⟨h1, h2, h3, h4, h5, h6, h7⟩ := hI
  have hm := min_or (μ (7 + p)) (μ (7 + q))
  have e : ∀ k, k < 6 → joinN μ p q 6 (7 + k) = if μ (7 + k) = μ (7 + p) ∨ μ (7 + k) = μ (7 + q) then Nat.min (μ (7 + p)) (μ (7 + q)) else μ (7 + k) := fun k hk => by
    unfold joinN
    by_cases z : μ (7 + k) = μ (7 + p) ∨ μ (7 + k) = μ (7 + q)
    · rw [if_pos z, if_pos ⟨by omega, by omega, z⟩]
    · rw [if_neg z, if_neg (fun y => z y.2.2)]
  have hle : Nat.min (μ (7 + p)) (μ (7 + q)) ≤ μ (7 + p) ∧ Nat.min (μ (7 + p)) (μ (7 + q)) ≤ μ (7 + q) := ⟨Nat.min_le_left _ _, Nat.min_le_right _ _⟩
  have p3 := h3 p (by omega)
  have q3 := h3 q (by omega)
  have hlm : μ (7 + Nat.min (μ (7 + p)) (μ (7 + q))) = Nat.min (μ (7 + p)) (μ (7 + q)) := by
    rcases hm with w | w
    · rw [w, p3.2]
    · rw [w, q3.2]
  generalize Nat.min (μ (7 + p)) (μ (7 + q)) = m at *
  refine ⟨by rw [join_o _ _ _ _ (by omega)]; exact h1, fun r hr => by rw [join_o _ _ _ _ (by omega), join_o _ _ _ _ (by omega)]; exact h2 r hr, fun r hr => ?_, fun r q1 q2 => ?_, ⟨by rw [join_o _ _ _ _ (by omega)]; exact h5.1, fun c hc => ?_⟩, ⟨by rw [join_o _ _ _ _ (by omega)]; exact h6.1, fun c hc => ?_⟩, fun c hc => by rw [join_o _ _ _ _ (by omega)]; exact h7 c hc⟩
  · have r3 := h3 r hr
    by_cases z : μ (7 + r) = μ (7 + p) ∨ μ (7 + r) = μ (7 + q)
    · have er : joinN μ p q 6 (7 + r) = m := by rw [e r hr, if_pos z]
      rw [er]
      refine ⟨by rcases z with z | z <;> omega, ?_⟩
      rw [e m (by omega), hlm, if_pos (by rcases hm with w | w; exact Or.inl w; exact Or.inr w)]
    · have er : joinN μ p q 6 (7 + r) = μ (7 + r) := by rw [e r hr, if_neg z]
      rw [er]
      refine ⟨r3.1, ?_⟩
      rw [e _ (by omega), r3.2, if_neg z]
  · have r4 := h4 r q1 q2
    rw [e r q2, if_neg (by omega), r4]
  · rw [join_o _ _ _ _ (by omega)] at hc
    exact h5.2 c hc
  · rw [join_o _ _ _ _ (by omega)] at hc
    rw [join_o _ _ _ _ (by omega), join_o _ _ _ _ (by omega)]
    exact h6.2 c hc
theorem c_knock {M0 : Mm} {τ μ : Nat → Nat} (hm : CM τ 3 M0 μ) {p q : Nat} (hp : p < 6) (hq : q < 6) : ∃ M', fX1_knockThrough 3 (nI p) (nI q) M0 = some M' ∧ far M0 M' ∧ CM τ 3 M' (joinN μ p q 6) := by
  have eun : (M0.1 (3 + 2) p ||| M0.1 (3 + 2) q) = nI (unM μ p q) := by
    rw [hm.2.2.2.2.1 p hp, hm.2.2.2.2.1 q hq, or_ok (jm_lt _ _) (jm_lt _ _)]
    rfl
  obtain ⟨b, hb, h1, h2, h3, h4⟩ := loop_inv0 (fun m (s : Int32 × Mm) => fX1_knockThrough_L17 3 (nI p) (nI q) M0 m s.1 s.2) (fun k s => s.1 = nI k ∧ far M0 s.2 ∧ (∀ j i, j ≠ 5 → s.2.1 j i = M0.1 j i) ∧ ∀ r, r < 6 → s.2.1 5 r = nI (if r < k ∧ (unM μ p q).testBit r = true then unM μ p q else jm μ r)) 6 (fun b => b.1 = nI 6 ∧ far M0 b.2 ∧ (∀ j i, j ≠ 5 → b.2.1 j i = M0.1 j i) ∧ ∀ r, r < 6 → b.2.1 5 r = nI (if r < 6 ∧ (unM μ p q).testBit r = true then unM μ p q else jm μ r)) (n := 50000) (s := (nI 0, M0)) (by omega) ⟨rfl, far.r _, fun _ _ _ => rfl, fun r hr => by rw [if_neg (by omega)]; exact hm.2.2.2.2.1 r hr⟩
    (fun n s hs => by
      obtain ⟨x, M⟩ := s
      obtain ⟨s1, s2, s3, s4⟩ := hs
      dsimp only at s1 s2 s3 s4
      subst s1
      dsimp only
      rw [fX1_knockThrough_L17, if_pos (show (6 : Int32) ≤ nI 6 by decide)]
      exact ⟨_, rfl, rfl, s2, s3, s4⟩)
    (fun n k s hk hs => by
      obtain ⟨x, M⟩ := s
      obtain ⟨s1, s2, s3, s4⟩ := hs
      dsimp only at s1 s2 s3 s4
      subst s1
      dsimp only
      rw [fX1_knockThrough_L17, if_neg (show ¬ (6 : Int32) ≤ nI k from nI_ge (b := 6) hk (by decide)), nI_clamp (by omega), nI_clamp (by omega), eun, has_ok (un_lt _ _ _) hk, bP_s, nI_1]
      rcases Bool.eq_false_or_eq_true ((unM μ p q).testBit k) with hb | hb
      · rw [hb, if_neg (show ¬ b2i true = 0 by decide), ix_ok hk (by decide), nI_clamp (by omega), lt_eq]
        refine ⟨(nI (k + 1), wI M (3 + 2) k (nI (unM μ p q))), rfl, rfl, s2.w (by omega), fun j i hj => by rw [wI_a _ _ _ _ hj, s3 j i hj], fun r hr => ?_⟩
        by_cases e : r = k
        · subst e
          rw [wI_v, if_pos ⟨by omega, hb⟩]
        · rw [wI_k _ _ _ _ e, s4 r hr]
          by_cases z : r < k
          · simp [z, show r < k + 1 by omega]
          · rw [if_neg (by omega), if_neg (by omega)]
      · rw [hb, if_pos (show b2i false = 0 by decide)]
        refine ⟨(nI (k + 1), _), rfl, rfl, s2, s3, fun r hr => ?_⟩
        rw [s4 r hr]
        by_cases e : r = k
        · subst e
          rw [if_neg (by omega), if_neg (by simp [hb])]
        · by_cases z : r < k
          · simp [z, show r < k + 1 by omega]
          · rw [if_neg (by omega), if_neg (by omega)])
  obtain ⟨b1, b2⟩ := b
  dsimp only at h1 h2 h3 h4 hb
  subst h1
  unfold fX1_knockThrough
  rw [ix_ok hp (by decide), ix_ok hq (by decide), show (0 : Int32) = nI 0 from rfl, hb, b2_s]
  refine ⟨_, rfl, h2, ?_⟩
  obtain ⟨m1, m2, m3, m4, m5, m6⟩ := hm
  refine ⟨by rw [h3 _ _ (by decide), join_o _ _ _ _ (by omega), m1], by rw [h3 _ _ (by decide), join_o _ _ _ _ (by omega), m2], by rw [h3 _ _ (by decide), join_o _ _ _ _ (by omega), m3], fun r hr => by rw [h3 _ _ (by decide), join_o _ _ _ _ (by omega), m4 r hr], fun r hr => ?_, fun r hr hbt => ?_⟩
  · rw [show 3 + 2 = 5 from rfl, h4 r hr, join_jm _ _ _ hr]
    simp [hr]
  · rw [join_o _ _ _ _ (by omega)] at hbt
    rw [h3 _ _ (by decide), join_o _ _ _ _ (by omega), m6 r hr hbt]
theorem join_s (μ : Nat → Nat) (p q k : Nat) : uN (joinN μ p q k) (7 + k) (if μ (7 + k) = μ (7 + p) ∨ μ (7 + k) = μ (7 + q) then Nat.min (μ (7 + p)) (μ (7 + q)) else μ (7 + k)) = joinN μ p q (k + 1) := by
  funext i
  simp only [uN, joinN]
  by_cases e : i = 7 + k
  · subst e
    rw [if_pos rfl]
    by_cases z : μ (7 + k) = μ (7 + p) ∨ μ (7 + k) = μ (7 + q)
    · rw [if_pos z, if_pos ⟨by omega, by omega, z⟩]
    · rw [if_neg z, if_neg (fun y => z y.2.2)]
  · rw [if_neg e]
    by_cases z : 7 ≤ i ∧ i < 7 + k ∧ (μ i = μ (7 + p) ∨ μ i = μ (7 + q))
    · rw [if_pos z, if_pos ⟨z.1, by omega, z.2.2⟩]
    · rw [if_neg z, if_neg (fun y => z ⟨y.1, by omega, y.2.2⟩)]
theorem m_joinL {M1 M0 : Mm} {τ μ : Nat → Nat} (h1 : MMr (M1.1 6) μ) (hm : MMr (M0.1 6) μ) (hI : MI τ μ) {p q : Nat} (hp : p < 6) (hq : q < 6) : ∃ M', fX7_joins_L79 (nI p) (nI q) M1 (nI (Nat.min (μ (7 + p)) (μ (7 + q)))) 50000 0 M0 = some (nI 6, M') ∧ far6 M0 M' ∧ MMr (M'.1 6) (joinN μ p q 6) := by
  obtain ⟨b, hb, g1, g2, g3⟩ := loop_inv0 (fun m (s : Int32 × Mm) => fX7_joins_L79 (nI p) (nI q) M1 (nI (Nat.min (μ (7 + p)) (μ (7 + q)))) m s.1 s.2) (fun k s => s.1 = nI k ∧ far6 M0 s.2 ∧ MMr (s.2.1 6) (joinN μ p q k)) 6 (fun b => b.1 = nI 6 ∧ far6 M0 b.2 ∧ MMr (b.2.1 6) (joinN μ p q 6)) (n := 50000) (s := (nI 0, M0)) (by omega) ⟨rfl, far6.r _, MM_ext hm (fun k _ => (join_o _ _ _ _ (by omega)).symm)⟩
    (fun n s hs => by
      obtain ⟨x, M⟩ := s
      obtain ⟨s1, s2, s3⟩ := hs
      dsimp only at s1 s2 s3
      subst s1
      dsimp only
      rw [fX7_joins_L79, if_pos (show (6 : Int32) ≤ nI 6 by decide)]
      exact ⟨_, rfl, rfl, s2, s3⟩)
    (fun n k s hk hs => by
      obtain ⟨x, M⟩ := s
      obtain ⟨s1, s2, s3⟩ := hs
      dsimp only at s1 s2 s3
      subst s1
      have hl : M.1 6 (7 + k) = nI (μ (7 + k)) := by rw [s3 _ (by omega), join_o _ _ _ _ (by omega)]
      have b1 := (hI.2.2.1 k hk).1
      have b2 := (hI.2.2.1 p hp).1
      have b3 := (hI.2.2.1 q hq).1
      dsimp only
      rw [fX7_joins_L79, if_neg (show ¬ (6 : Int32) ≤ nI k from nI_ge (b := 6) hk (by decide)), show (7 : Int32) = nI 7 from rfl, nI_add, nI_add, nI_add, ix_ok (by omega) (by decide), ix_ok (by omega) (by decide), ix_ok (by omega) (by decide), nI_clamp (by omega), nI_clamp (by omega), nI_clamp (by omega), hl, h1 (7 + p) (by omega), h1 (7 + q) (by omega), nI_1, lt_eq, lt_eq]
      by_cases z1 : μ (7 + k) = μ (7 + p)
      · rw [if_pos (by rw [z1])]
        refine ⟨(nI (k + 1), _), rfl, rfl, s2.w, ?_⟩
        rw [← join_s, if_pos (Or.inl z1)]
        exact MM_w s3
      · rw [if_neg (fun z => z1 ((nI_eq (by omega) (by omega)).mp z))]
        by_cases z2 : μ (7 + k) = μ (7 + q)
        · rw [if_pos (by rw [z2])]
          refine ⟨(nI (k + 1), _), rfl, rfl, s2.w, ?_⟩
          rw [← join_s, if_pos (Or.inr z2)]
          exact MM_w s3
        · rw [if_neg (fun z => z2 ((nI_eq (by omega) (by omega)).mp z))]
          refine ⟨(nI (k + 1), _), rfl, rfl, s2.w, ?_⟩
          rw [← join_s, if_neg (by omega)]
          exact MM_w s3)
  obtain ⟨b1, b2⟩ := b
  dsimp only at g1 g2 g3 hb
  subst g1
  exact ⟨b2, hb, g2, g3⟩
theorem R_joins {Mc Md : Mm} (h : Rel Mc Md) (p q : Int32) : ∃ r Mc' Md', fX6_joins p q Mc = some (r, Mc') ∧ fX7_joins p q Md = some (r, Md') ∧ Rel Mc' Md' := by
  obtain ⟨t, τ, μ, h⟩ := h
  have hz := h.z
  have hT := h.1.1
  have h60 := hT.1
  have hI := h.2.1.2.2
  unfold fX6_joins fX7_joins
  rw [lt_eq, c_isRoom hT h.1.2.1, m_isRoom hT hz.1.2.2.2, c_isRoom hT h.1.2.1, m_isRoom hT hz.1.2.2.2, bP_s, bP_s, bP_s, bP_s]
  generalize wI Md 0 0 0 = Mz at *
  rcases isX_cases (τ 0) (by omega) p with ⟨p, hp, rfl, hb⟩ | ⟨hb, hx⟩
  · rw [hb, if_neg (show ¬ b2i true = 0 by decide), if_neg (show ¬ b2i true = 0 by decide)]
    rcases isX_cases (τ 0) (by omega) q with ⟨q, hq, rfl, hb2⟩ | ⟨hb2, hx⟩
    · rw [hb2, if_neg (show ¬ b2i true = 0 by decide), if_neg (show ¬ b2i true = 0 by decide)]
      by_cases hpq : p = q
      · subst hpq
        rw [if_pos rfl, if_pos rfl]
        exact ⟨_, _, _, rfl, rfl, t, τ, μ, hz⟩
      · have hne : ¬ nI p = nI q := fun z => hpq ((nI_eq (by omega) (by omega)).mp z)
        have b2 := (hI.2.2.1 p (by omega)).1
        have b3 := (hI.2.2.1 q (by omega)).1
        rw [if_neg hne, if_neg hne, ix_ok (by omega) (by decide), show (7 : Int32) = nI 7 from rfl, nI_add, nI_add, ix_ok (by omega) (by decide), ix_ok (by omega) (by decide), nI_clamp (by omega), nI_clamp (by omega), nI_clamp (by omega), hz.2.1.2.1 (7 + p) (by omega), hz.2.1.2.1 (7 + q) (by omega), show Mc.1 5 p = nI (jm μ p) from h.2.1.1.2.2.2.2.1 p (by omega), has_ok (jm_lt _ _) (by omega), bP_s, jm_b]
        by_cases hlab : μ (7 + q) = μ (7 + p)
        · rw [if_neg (by simp [show q < 6 by omega, hlab, b2i]), if_pos (by rw [hlab])]
          exact ⟨_, _, _, rfl, rfl, t, τ, μ, hz⟩
        · obtain ⟨Nc, Nd, n1, n2, hn⟩ := R_rem hz
          have ej : (if nI (μ (7 + q)) ≤ nI (μ (7 + p)) then some (nI (μ (7 + q))) else some (nI (μ (7 + p)))) = some (nI (Nat.min (μ (7 + p)) (μ (7 + q)))) := by
            rw [show Nat.min (μ (7 + p)) (μ (7 + q)) = min (μ (7 + p)) (μ (7 + q)) from rfl]
            by_cases z : μ (7 + q) ≤ μ (7 + p)
            · rw [if_pos (nI_le z (by omega)), Nat.min_eq_right z]
            · rw [if_neg (nI_ge (by omega) (by omega)), Nat.min_eq_left (by omega)]
          obtain ⟨C1, c1, c2, c3⟩ := c_knock hn.2.1.1 (p := p) (q := q) (by omega) (by omega)
          obtain ⟨D1, d1, d2, d3⟩ := m_joinL hz.2.1.2.1 hn.2.1.2.1 hI (p := p) (q := q) (by omega) (by omega)
          have hMI := join_MI hT hI hp hq
          rw [if_pos (by simp [hlab, b2i]), if_neg (fun z => hlab ((nI_eq (by omega) (by omega)).mp z).symm), n1, n2, bP_s, bP_s, ej, bP_s, d1, b2_s, c1, bP_s, c_ageOfRoom hT c3 hMI (by omega), m_ageOf hT (d2.MTt hn.1.2.2.2) d3 hMI hp, bP_s, bP_s]
          exact ⟨_, _, _, rfl, rfl, t, τ, joinN μ p q 6, hn.now (fun j k q => c2.2 j k q) (fun j k q => d2.2 j k q) ⟨c3, d3, hMI⟩ c2.1 d2.1⟩
    · rw [hb2, if_pos (show b2i false = 0 by decide), if_pos (show b2i false = 0 by decide)]
      exact ⟨_, _, _, rfl, rfl, t, τ, μ, hz⟩
  · rw [hb, if_pos (show b2i false = 0 by decide), if_pos (show b2i false = 0 by decide)]
    exact ⟨_, _, _, rfl, rfl, t, τ, μ, hz⟩

/-! ===== copies, keep, back, remember, undo ===== -/
def cpM (M : Mm) (d od s os k : Nat) : Mm := (fun b i => if b = d ∧ od ≤ i ∧ i < od + k then M.1 s (os + (i - od)) else M.1 b i, M.2)
theorem cp_0 (M : Mm) (d od s os : Nat) : cpM M d od s os 0 = M := by
  unfold cpM
  refine Prod.ext ?_ rfl
  funext b i
  show (if b = d ∧ od ≤ i ∧ i < od + 0 then _ else M.1 b i) = M.1 b i
  rw [if_neg (by omega)]
theorem cp_s (M : Mm) (d od s os k : Nat) : wI (cpM M d od s os k) d (od + k) (M.1 s (os + k)) = cpM M d od s os (k + 1) := by
  unfold cpM wI
  refine Prod.ext ?_ rfl
  funext b i
  show (if b = d ∧ i = od + k then _ else (if b = d ∧ od ≤ i ∧ i < od + k then _ else M.1 b i)) = (if b = d ∧ od ≤ i ∧ i < od + (k + 1) then _ else M.1 b i)
  by_cases h1 : b = d ∧ i = od + k
  · rw [if_pos h1, if_pos (by omega), h1.2, show od + k - od = k by omega]
  · rw [if_neg h1]
    by_cases h2 : b = d ∧ od ≤ i ∧ i < od + k
    · rw [if_pos h2, if_pos (by omega)]
    · rw [if_neg h2, if_neg (by omega)]
theorem cp_a (M : Mm) (d od s os k : Nat) {b : Nat} (h : b ≠ d) : (cpM M d od s os k).1 b = M.1 b := by
  funext i
  show (if b = d ∧ od ≤ i ∧ i < od + k then _ else M.1 b i) = M.1 b i
  rw [if_neg (by omega)]
theorem cp_v (M : Mm) (d od s os k : Nat) {i : Nat} (h : i < k) : (cpM M d od s os k).1 d (od + i) = M.1 s (os + i) := by
  show (if d = d ∧ od ≤ od + i ∧ od + i < od + k then M.1 s (os + (od + i - od)) else M.1 d (od + i)) = _
  rw [if_pos (by omega), show od + i - od = i by omega]
theorem cp_o (M : Mm) (d od s os k : Nat) {i : Nat} (h : i < od ∨ od + k ≤ i) : (cpM M d od s os k).1 d i = M.1 d i := by
  show (if d = d ∧ od ≤ i ∧ i < od + k then _ else M.1 d i) = M.1 d i
  rw [if_neg (by omega)]
theorem become_ok {a b : Nat} (hab : a + 3 < b ∨ b + 3 < a) {M : Mm} {τ μ : Nat → Nat} (h : CM τ b M μ) : ∃ M', fX1_become a b M = some M' ∧ M'.2 = M.2 ∧ (∀ j k, (j < a ∨ a + 3 < j) → M'.1 j k = M.1 j k) ∧ CM τ a M' μ := by
  unfold fX1_become
  refine ⟨_, rfl, rfl, fun j k hj => ?_, ?_⟩
  · simp [lt, wI, wA, show ¬ j = a by omega, show ¬ j = a + 1 by omega, show ¬ j = a + 2 by omega, show ¬ j = a + 3 by omega]
  · obtain ⟨h1, h2, h3, h4, h5, h6⟩ := h
    refine ⟨?_, ?_, ?_, fun r hr => ?_, fun r hr => ?_, fun r hr hb => ?_⟩
    · rw [← h1]
      simp [lt, wI, wA]
    · rw [← h2]
      simp [lt, wI, wA, show ¬ b = a by omega]
    · rw [← h3]
      simp [lt, wI, wA, show ¬ b = a by omega]
    · rw [← h4 r hr]
      simp [lt, wI, wA, va_cpy, show r < 6 by omega, show ¬ b = a by omega, show ¬ b + 1 = a by omega]
    · rw [← h5 r hr]
      simp [lt, wI, wA, va_cpy, show r < 6 by omega, show ¬ b + 2 = a by omega, show ¬ b + 1 = a by omega, show ¬ b + 2 = a + 1 by omega]
    · rw [← h6 r hr hb]
      simp [lt, wI, wA, va_cpy, show r < 6 by omega, show ¬ b + 3 = a by omega, show ¬ b + 3 = a + 1 by omega, show ¬ b + 3 = a + 2 by omega]
theorem c_isImage (p : Int32) : fX6_isImage p = some (b2i (inB p 2)) := by
  unfold fX6_isImage
  rcases isX_cases 2 (by decide) p with ⟨k, hk, rfl, hb⟩ | ⟨hb, hx⟩
  · rw [hb, if_neg (nI_pos (by omega)), if_neg (show ¬ (2 : Int32) ≤ nI k from nI_ge (b := 2) hk (by decide))]
    rfl
  · rw [hb]
    rcases hx with hx | ⟨hx, hy⟩
    · rw [if_pos hx]
      rfl
    · rw [if_neg hx, if_pos (show (2 : Int32) ≤ p from hy)]
      rfl
theorem m_keepL {M : Mm} {i : Nat} (hi : i < 2) : fX7_keep_L18 (nI i) 50000 0 M = some (nI 21, cpM M 7 (21 * i) 6 0 21) := by
  have := loop_0u (fun m (q : Int32 × Mm) => fX7_keep_L18 (nI i) m q.1 q.2) (fun k => (nI k, cpM M 7 (21 * i) 6 0 k)) 21 _ (n := 50000) (by omega)
    (fun m => by
      dsimp only
      rw [fX7_keep_L18, if_pos (show (21 : Int32) ≤ nI 21 by decide)])
    (fun m k hk => by
      dsimp only
      rw [fX7_keep_L18, if_neg (show ¬ (21 : Int32) ≤ nI k from nI_ge (b := 21) hk (by decide)), show (21 : Int32) = nI 21 from rfl, pk_mul, nI_add, ix_ok hk (by decide), ix_ok (by omega) (by decide), lt_eq, nI_clamp (by omega), nI_clamp (by omega), nI_1, cp_a _ _ _ _ _ _ (by decide), ← cp_s, Nat.zero_add])
  rw [cp_0] at this
  exact this
theorem m_backL {M : Mm} {i : Nat} (hi : i < 2) : fX7_back_L30 (nI i) 50000 0 M = some (nI 21, cpM M 6 0 7 (21 * i) 21) := by
  have := loop_0u (fun m (q : Int32 × Mm) => fX7_back_L30 (nI i) m q.1 q.2) (fun k => (nI k, cpM M 6 0 7 (21 * i) k)) 21 _ (n := 50000) (by omega)
    (fun m => by
      dsimp only
      rw [fX7_back_L30, if_pos (show (21 : Int32) ≤ nI 21 by decide)])
    (fun m k hk => by
      dsimp only
      rw [fX7_back_L30, if_neg (show ¬ (21 : Int32) ≤ nI k from nI_ge (b := 21) hk (by decide)), show (21 : Int32) = nI 21 from rfl, pk_mul, nI_add, ix_ok hk (by decide), ix_ok (by omega) (by decide), lt_eq, nI_clamp (by omega), nI_clamp (by omega), nI_1, cp_a _ _ _ _ _ _ (by decide), ← cp_s, Nat.zero_add])
  rw [cp_0] at this
  exact this
theorem m_undoL {M : Mm} {u : Nat} (hu : u < 10) (h : M.1 0 18 = nI u) : fX7_undo_L27 50000 0 M = some (nI 21, cpM M 6 0 9 (21 * u) 21) := by
  have := loop_0u (fun m (q : Int32 × Mm) => fX7_undo_L27 m q.1 q.2) (fun k => (nI k, cpM M 6 0 9 (21 * u) k)) 21 _ (n := 50000) (by omega)
    (fun m => by
      dsimp only
      rw [fX7_undo_L27, if_pos (show (21 : Int32) ≤ nI 21 by decide)])
    (fun m k hk => by
      dsimp only
      rw [fX7_undo_L27, if_neg (show ¬ (21 : Int32) ≤ nI k from nI_ge (b := 21) hk (by decide)), cp_a _ _ _ _ _ _ (show 0 ≠ 6 by decide), h, show (21 : Int32) = nI 21 from rfl, pk_mul, nI_add, ix_ok hk (by decide), ix_ok (by omega) (by decide), lt_eq, nI_clamp (by omega), nI_clamp (by omega), nI_1, cp_a _ _ _ _ _ _ (by decide), ← cp_s, Nat.zero_add])
  rw [cp_0] at this
  exact this
theorem m_noteL {M : Mm} {u : Nat} (hu : u < 10) (h : M.1 0 18 = nI u) : fX7_notes_L47 50000 0 M = some (nI 21, cpM M 9 (21 * u) 6 0 21) := by
  have := loop_0u (fun m (q : Int32 × Mm) => fX7_notes_L47 m q.1 q.2) (fun k => (nI k, cpM M 9 (21 * u) 6 0 k)) 21 _ (n := 50000) (by omega)
    (fun m => by
      dsimp only
      rw [fX7_notes_L47, if_pos (show (21 : Int32) ≤ nI 21 by decide)])
    (fun m k hk => by
      dsimp only
      rw [fX7_notes_L47, if_neg (show ¬ (21 : Int32) ≤ nI k from nI_ge (b := 21) hk (by decide)), cp_a _ _ _ _ _ _ (show 0 ≠ 9 by decide), h, show (21 : Int32) = nI 21 from rfl, pk_mul, nI_add, ix_ok hk (by decide), ix_ok (by omega) (by decide), lt_eq, nI_clamp (by omega), nI_clamp (by omega), nI_1, cp_a _ _ _ _ _ _ (by decide), ← cp_s, Nat.zero_add])
  rw [cp_0] at this
  exact this
def sftM (M : Mm) (k : Nat) : Mm := (fun b i => if b = 9 ∧ i < k then M.1 9 (i + 21) else M.1 b i, M.2)
theorem m_shL {M : Mm} : fX7_notes_L11 50000 0 M = some (nI 189, sftM M 189) := by
  have := loop_0u (fun m (q : Int32 × Mm) => fX7_notes_L11 m q.1 q.2) (fun k => (nI k, sftM M k)) 189 _ (n := 50000) (by omega)
    (fun m => by
      dsimp only
      rw [fX7_notes_L11, if_pos (show (189 : Int32) ≤ nI 189 by decide)])
    (fun m k hk => by
      have e1 : (sftM M k).1 9 (k + 21) = M.1 9 (k + 21) := if_neg (by omega)
      have e2 : wI (sftM M k) 9 k (M.1 9 (k + 21)) = sftM M (k + 1) := by
        refine Prod.ext ?_ rfl
        funext b i
        show (if b = 9 ∧ i = k then _ else (if b = 9 ∧ i < k then _ else M.1 b i)) = (if b = 9 ∧ i < k + 1 then _ else M.1 b i)
        by_cases h1 : b = 9 ∧ i = k
        · rw [if_pos h1, if_pos (by omega), h1.2]
        · rw [if_neg h1]
          by_cases h2 : b = 9 ∧ i < k
          · rw [if_pos h2, if_pos (by omega)]
          · rw [if_neg h2, if_neg (by omega)]
      dsimp only
      rw [fX7_notes_L11, if_neg (show ¬ (189 : Int32) ≤ nI k from nI_ge (b := 189) hk (by decide)), show (21 : Int32) = nI 21 from rfl, nI_add, ix_ok (by omega) (by decide), ix_ok (by omega) (by decide), lt_eq, nI_clamp (by omega), nI_clamp (by omega), nI_1, e1, e2])
  have e0 : sftM M 0 = M := by
    refine Prod.ext ?_ rfl
    funext b i
    show (if b = 9 ∧ i < 0 then _ else M.1 b i) = M.1 b i
    rw [if_neg (by omega)]
  rw [e0] at this
  exact this
theorem R_keep {Mc Md : Mm} (h : Rel Mc Md) (p : Int32) : ∃ r Mc' Md', fX6_keep p Mc = some (r, Mc') ∧ fX7_keep p Md = some (r, Md') ∧ Rel Mc' Md' := by
  obtain ⟨t, τ, μ, h⟩ := h
  have ht := isT_2 h.1.2.1.1
  have hz := h.z
  have ein : fX7_in p 0 1 = some (b2i (inB p 2)) := m_inB (B := 1) (by decide) p
  unfold fX6_keep fX7_keep
  rw [lt_eq, ein, c_isImage, bP_s, bP_s]
  generalize wI Md 0 0 0 = Mz at *
  rcases isX_cases 2 (by decide) p with ⟨i, hi, rfl, hb⟩ | ⟨hb, hx⟩
  · obtain ⟨M1, e1, e2, e3, e4⟩ := become_ok (a := 72 + 4 * i) (b := 3) (by omega) h.2.1.1
    rw [hb, if_neg (show ¬ b2i true = 0 by decide), if_neg (show ¬ b2i true = 0 by decide), ix_ok (by omega) (by decide), nI_clamp (by omega), e1, bP_s, ix_ok (by omega) (by decide), lt_eq, m_keepL hi, b2_s, ix_ok (by omega) (by decide), lt_eq, wI_a _ _ _ _ (show 3 ≠ 50 by decide), wI_a _ _ _ _ (show 6 ≠ 8 by decide), cp_a _ _ _ _ _ _ (show 6 ≠ 7 by decide), e3 3 3 (by omega), h.2.1.1.1, show Mz.1 6 ((0 : Int32)).toNatClampNeg = nI (μ 0) from hz.2.1.2.1 0 (by decide)]
    refine ⟨_, _, _, rfl, rfl, t, τ, μ, ?_⟩
    have k1 : ∀ j k, j ≠ 50 → (j < 72 + 4 * i ∨ 72 + 4 * i + 3 < j) → (wI M1 50 i 1).1 j k = Mc.1 j k := fun j k q1 q2 => by rw [wI_a _ _ _ _ q1, e3 j k q2]
    have k2 : ∀ j k, j ≠ 7 → j ≠ 8 → (wI (cpM Mz 7 (21 * i) 6 0 21) 8 i 1).1 j k = Mz.1 j k := fun j k q1 q2 => by rw [wI_a _ _ _ _ q2, cp_a _ _ _ _ _ _ q1]
    refine ⟨RT_cong hz.1 (fun k => k1 _ _ (by omega) (by omega)) (fun j k q1 q2 => k1 _ _ (by omega) (by omega)) (fun k _ => k2 _ _ (by omega) (by omega)) (fun k _ => k2 _ _ (by omega) (by omega)) (fun k _ => k2 _ _ (by omega) (by omega)), RN_cong hz.2.1 (fun j k q1 q2 => k1 _ _ (by omega) (by omega)) (fun k => k2 _ _ (by omega) (by omega)), RX_cong hz.2.2.1 (k1 _ _ (by omega) (by omega)) (fun k => k1 _ _ (by omega) (by omega)) (k2 _ _ (by omega) (by omega)) (fun k => k2 _ _ (by omega) (by omega)), RU_cong hz.2.2.2.1 (k1 _ _ (by omega) (by omega)) (k1 _ _ (by omega) (by omega)) (k2 _ _ (by omega) (by omega)) (fun j k q1 q2 => k1 _ _ (by omega) (by omega)) (fun k => k2 _ _ (by omega) (by omega)), fun i' hi' => ?_, RS_cong hz.2.2.2.2.2.1 (k1 _ _ (by omega) (by omega)) (k2 _ _ (by omega) (by omega)) (fun k => k1 _ _ (by omega) (by omega)) (fun k => k1 _ _ (by omega) (by omega)) (fun k => k2 _ _ (by omega) (by omega)) (fun k => k2 _ _ (by omega) (by omega)), ?_⟩
    · by_cases e : i' = i
      · subst e
        refine ⟨true, wI_v _ _ _ _, wI_v _ _ _ _, fun _ => ⟨μ, CM_cong e4 (fun j k q1 q2 => by rw [wI_a _ _ _ _ (by omega)]), fun k hk => ?_, hz.2.1.2.2⟩⟩
        rw [wI_a _ _ _ _ (by decide), cp_v _ _ _ _ _ _ hk, hz.2.1.2.1 (0 + k) (by omega), Nat.zero_add]
      · obtain ⟨b, g1, g2, g3⟩ := hz.2.2.2.2.1 i' hi'
        refine ⟨b, by rw [wI_k _ _ _ _ e, e3 _ _ (by omega), g1], by rw [wI_k _ _ _ _ e, cp_a _ _ _ _ _ _ (by decide), g2], fun hbt => ?_⟩
        obtain ⟨κ, q1, q2, q3⟩ := g3 hbt
        refine ⟨κ, CM_cong q1 (fun j k z1 z2 => k1 _ _ (by omega) (by omega)), fun k hk => ?_, q3⟩
        rw [wI_a _ _ _ _ (by decide), cp_o _ _ _ _ _ _ (by omega), q2 k hk]
    · show M1.2 = Mz.2
      rw [e2, hz.2.2.2.2.2.2]
  · rw [hb, if_pos (show b2i false = 0 by decide), if_pos (show b2i false = 0 by decide)]
    exact ⟨_, _, _, rfl, rfl, t, τ, μ, hz⟩
theorem R_back {Mc Md : Mm} (h : Rel Mc Md) (p : Int32) : ∃ r Mc' Md', fX6_back p Mc = some (r, Mc') ∧ fX7_back p Md = some (r, Md') ∧ Rel Mc' Md' := by
  obtain ⟨t, τ, μ, h⟩ := h
  have ht := isT_2 h.1.2.1.1
  have hz := h.z
  have ein : fX7_in p 0 1 = some (b2i (inB p 2)) := m_inB (B := 1) (by decide) p
  unfold fX6_back fX7_back
  rw [lt_eq, ein, c_isImage, bP_s, bP_s]
  generalize wI Md 0 0 0 = Mz at *
  rcases isX_cases 2 (by decide) p with ⟨i, hi, rfl, hb⟩ | ⟨hb, hx⟩
  · obtain ⟨b, g1, g2, g3⟩ := hz.2.2.2.2.1 i hi
    rw [hb, if_neg (show ¬ b2i true = 0 by decide), if_neg (show ¬ b2i true = 0 by decide), ix_ok (by omega) (by decide), nI_clamp (by omega), ix_ok (by omega) (by decide), g1, g2]
    rcases Bool.eq_false_or_eq_true b with rfl | rfl
    · obtain ⟨κ, q1, q2, q3⟩ := g3 rfl
      obtain ⟨M1, e1, e2, e3, e4⟩ := become_ok (a := 3) (b := 72 + 4 * i) (by omega) q1
      rw [if_neg (show ¬ b2i true = 0 by decide), if_neg (show ¬ b2i true = 0 by decide), ix_ok (by omega) (by decide), e1, bP_s, lt_eq, m_backL hi, b2_s, lt_eq, wI_a _ _ _ _ (show 3 ≠ 7 by decide), wI_a _ _ _ _ (show 6 ≠ 0 by decide), e4.1, show (cpM Mz 6 0 7 (21 * i) 21).1 6 ((0 : Int32)).toNatClampNeg = nI (κ 0) from (cp_v _ _ _ _ _ _ (i := 0) (by decide)).trans (q2 0 (by decide))]
      refine ⟨_, _, _, rfl, rfl, t, τ, κ, ?_⟩
      have k1 : ∀ j k, j ≠ 7 → (j < 3 ∨ 6 < j) → (wI M1 7 2 0).1 j k = Mc.1 j k := fun j k q1 q2 => by rw [wI_a _ _ _ _ q1, e3 j k (by omega)]
      have k2 : ∀ j k, j ≠ 6 → j ≠ 0 → (wI (cpM Mz 6 0 7 (21 * i) 21) 0 18 0).1 j k = Mz.1 j k := fun j k q1 q2 => by rw [wI_a _ _ _ _ q2, cp_a _ _ _ _ _ _ q1]
      have k3 : ∀ k, k ≠ 18 → (wI (cpM Mz 6 0 7 (21 * i) 21) 0 18 0).1 0 k = Mz.1 0 k := fun k q1 => by rw [wI_k _ _ _ _ q1, cp_a _ _ _ _ _ _ (by decide)]
      obtain ⟨u, f, υ, u1, u2, u3, u4, u5, u6⟩ := hz.2.2.2.1
      refine ⟨RT_cong hz.1 (fun k => k1 _ _ (by omega) (by omega)) (fun j k q1 q2 => k1 _ _ (by omega) (by omega)) (fun k _ => k2 _ _ (by omega) (by omega)) (fun k _ => k2 _ _ (by omega) (by omega)) (fun k _ => k2 _ _ (by omega) (by omega)), ⟨CM_cong e4 (fun j k z1 z2 => by rw [wI_a _ _ _ _ (by omega)]), fun k hk => ?_, q3⟩, RX_cong hz.2.2.1 (k1 _ _ (by omega) (by omega)) (fun k => k1 _ _ (by omega) (by omega)) (k3 _ (by omega)) (fun k => k2 _ _ (by omega) (by omega)), ⟨0, f, υ, by omega, u2, ?_, wI_v _ _ _ _, wI_v _ _ _ _, fun i hi => absurd hi (by omega)⟩, RI_cong hz.2.2.2.2.1 (fun k => k1 _ _ (by omega) (by omega)) (fun k => k2 _ _ (by omega) (by omega)) (fun j k q1 q2 => k1 _ _ (by omega) (by omega)) (fun k => k2 _ _ (by omega) (by omega)), RS_cong hz.2.2.2.2.2.1 (k1 _ _ (by omega) (by omega)) (k3 _ (by omega)) (fun k => k1 _ _ (by omega) (by omega)) (fun k => k1 _ _ (by omega) (by omega)) (fun k => k2 _ _ (by omega) (by omega)) (fun k => k2 _ _ (by omega) (by omega)), ?_⟩
      · rw [wI_a _ _ _ _ (by decide)]
        have := cp_v Mz 6 0 7 (21 * i) 21 hk
        rw [Nat.zero_add] at this
        rw [this, q2 k hk]
      · rw [wI_k _ _ _ _ (by decide), e3 _ _ (by omega), u3]
      · show M1.2 = Mz.2
        rw [e2, hz.2.2.2.2.2.2]
    · rw [if_pos (show b2i false = 0 by decide), if_pos (show b2i false = 0 by decide), ix_ok (by omega) (by decide)]
      exact ⟨_, _, _, rfl, rfl, t, τ, μ, hz⟩
  · rw [hb, if_pos (show b2i false = 0 by decide), if_pos (show b2i false = 0 by decide)]
    exact ⟨_, _, _, rfl, rfl, t, τ, μ, hz⟩
theorem R_undo {Mc Md : Mm} (h : Rel Mc Md) : ∃ r Mc' Md', fX6_undo Mc = some (r, Mc') ∧ fX7_undo Md = some (r, Md') ∧ Rel Mc' Md' := by
  obtain ⟨t, τ, μ, h⟩ := h
  have ht := isT_2 h.1.2.1.1
  have hz := h.z
  obtain ⟨u, f, υ, u1, u2, u3, u4, u5, u6⟩ := hz.2.2.2.1
  unfold fX6_undo fX7_undo
  rw [lt_eq]
  generalize wI Md 0 0 0 = Mz at *
  rw [u4, u5]
  by_cases hu : u = 0
  · subst hu
    rw [if_pos (show nI 0 = 0 from rfl), if_pos (show nI 0 = 0 from rfl)]
    exact ⟨_, _, _, rfl, rfl, t, τ, μ, hz⟩
  · obtain ⟨v, rfl⟩ : ∃ v, u = v + 1 := ⟨u - 1, by omega⟩
    have hs : (f + 10 - (v + 1) + v) % 10 = (f + 9) % 10 := by omega
    obtain ⟨c1, c2, c3⟩ := u6 v (by omega)
    unfold fX2_restore
    rw [hs] at c1
    have hl := Nat.mod_lt (f + 9) (show 0 < 10 by decide)
    rw [if_neg (show ¬ nI (v + 1) = 0 from nI_nen (by omega) (by omega)), if_neg (show ¬ nI (v + 1) = 0 from nI_nen (by omega) (by omega)), u3, show (10 : Int32) = nI 10 from rfl, show (1 : Int32) = nI 1 from rfl, nI_add, pk_sub (by omega), pk_rem (by omega) (by decide) (by decide), show f + 10 - 1 = f + 9 by omega, lt_eq, wI_k _ _ _ _ (show 2 ≠ 1 by decide), u4, pk_sub (by omega), Nat.add_sub_cancel, lt_eq, wI_k _ _ _ _ (show 1 ≠ 2 by decide), wI_v, ix_ok hl (by decide), nI_clamp (by omega)]
    obtain ⟨M1, e1, e2, e3, e4⟩ := become_ok (a := 3) (b := 9 + 4 * ((f + 9) % 10)) (M := wI (wI Mc 7 1 (nI ((f + 9) % 10))) 7 2 (nI v)) (μ := υ v) (by omega) (CM_cong c1 (fun j k q1 q2 => by rw [wI_a _ _ _ _ (by omega), wI_a _ _ _ _ (by omega)]))
    rw [e1, bP_s, lt_eq, m_undoL (u := v) (by omega) (wI_v _ _ _ _), b2_s, bP_s, cp_a _ _ _ _ _ _ (by decide), wI_v, e3 7 2 (by omega), wI_v]
    refine ⟨_, _, _, rfl, rfl, t, τ, υ v, ?_⟩
    have k1 : ∀ j k, j ≠ 7 → (j < 3 ∨ 6 < j) → M1.1 j k = Mc.1 j k := fun j k q1 q2 => by rw [e3 j k (by omega), wI_a _ _ _ _ q1, wI_a _ _ _ _ q1]
    have k2 : ∀ j k, j ≠ 6 → j ≠ 0 → (cpM (wI Mz 0 18 (nI v)) 6 0 9 (21 * v) 21).1 j k = Mz.1 j k := fun j k q1 q2 => by rw [cp_a _ _ _ _ _ _ q1, wI_a _ _ _ _ q2]
    have k3 : ∀ k, k ≠ 18 → (cpM (wI Mz 0 18 (nI v)) 6 0 9 (21 * v) 21).1 0 k = Mz.1 0 k := fun k q1 => by rw [cp_a _ _ _ _ _ _ (by decide), wI_k _ _ _ _ q1]
    refine ⟨RT_cong hz.1 (fun k => k1 _ _ (by omega) (by omega)) (fun j k q1 q2 => k1 _ _ (by omega) (by omega)) (fun k _ => k2 _ _ (by omega) (by omega)) (fun k _ => k2 _ _ (by omega) (by omega)) (fun k _ => k2 _ _ (by omega) (by omega)), ⟨e4, fun k hk => ?_, c3⟩, RX_cong hz.2.2.1 (k1 _ _ (by omega) (by omega)) (fun k => k1 _ _ (by omega) (by omega)) (k3 _ (by omega)) (fun k => k2 _ _ (by omega) (by omega)), ⟨v, (f + 9) % 10, υ, by omega, by omega, ?_, ?_, ?_, fun i hi => ?_⟩, RI_cong hz.2.2.2.2.1 (fun k => k1 _ _ (by omega) (by omega)) (fun k => k2 _ _ (by omega) (by omega)) (fun j k q1 q2 => k1 _ _ (by omega) (by omega)) (fun k => k2 _ _ (by omega) (by omega)), RS_cong hz.2.2.2.2.2.1 (k1 _ _ (by omega) (by omega)) (k3 _ (by omega)) (fun k => k1 _ _ (by omega) (by omega)) (fun k => k1 _ _ (by omega) (by omega)) (fun k => k2 _ _ (by omega) (by omega)) (fun k => k2 _ _ (by omega) (by omega)), ?_⟩
    · have := cp_v (wI Mz 0 18 (nI v)) 6 0 9 (21 * v) 21 hk
      rw [Nat.zero_add] at this
      rw [this, wI_a _ _ _ _ (by decide), c2 k hk]
    · rw [e3 7 1 (by omega), wI_k _ _ _ _ (by decide), wI_v]
    · rw [e3 7 2 (by omega), wI_v]
    · rw [cp_a _ _ _ _ _ _ (by decide), wI_v]
    · obtain ⟨d1, d2, d3⟩ := u6 i (by omega)
      rw [show ((f + 9) % 10 + 10 - v + i) % 10 = (f + 10 - (v + 1) + i) % 10 by omega]
      have hl2 := Nat.mod_lt (f + 10 - (v + 1) + i) (show 0 < 10 by decide)
      refine ⟨CM_cong d1 (fun j k q1 q2 => k1 _ _ (by omega) (by omega)), fun k hk => ?_, d3⟩
      rw [k2 _ _ (by decide) (by decide), d2 k hk]
    · show M1.2 = Mz.2
      rw [e2]
      exact hz.2.2.2.2.2.2
theorem R_rem {Mc Md : Mm} {t : Nat} {τ μ : Nat → Nat} (h : RelT t τ μ Mc Md) : ∃ Mc' Md', fX2_remember 3 Mc = some Mc' ∧ fX7_notes Md = some Md' ∧ RelT t τ μ Mc' Md' := by
  have ht := isT_2 h.1.2.1.1
  obtain ⟨u, f, υ, u1, u2, u3, u4, u5, u6⟩ := id h.2.2.2.1
  obtain ⟨M1, e1, e2, e3, e4⟩ := become_ok (a := 9 + 4 * f) (b := 3) (by omega) h.2.1.1
  unfold fX2_remember fX7_notes
  have w1 : (wI M1 7 1 (nI ((f + 1) % 10))).1 7 2 = nI u := by rw [wI_k _ _ _ _ (by decide), e3 7 2 (by omega), u4]
  rw [u3, ix_ok u2 (by decide), nI_clamp (by omega), e1, bP_s, e3 7 1 (by omega), u3, show (10 : Int32) = nI 10 from rfl, show (1 : Int32) = nI 1 from rfl, nI_add, pk_rem (by omega) (by decide) (by decide), lt_eq, w1, nI_add, lt_eq, u5]
  -- the reference's shift
  have hsh : ∃ (s : Nat) (M2 : Mm), s = (if u = 10 then 1 else 0) ∧ (if nI u = nI 10 then b2 (fX7_notes_L11 50000 0 Md) (fun (_ : Int32) (M5 : Mm) => lt (wI M5 0 18 9) (fun (M11 : Mm) => some M11)) else some Md) = some M2 ∧ M2.2 = Md.2 ∧ (∀ j k, j ≠ 9 → (j ≠ 0 ∨ k ≠ 18) → M2.1 j k = Md.1 j k) ∧ M2.1 0 18 = nI (u - s) ∧ ∀ k, k < 189 → M2.1 9 k = Md.1 9 (k + 21 * s) := by
    by_cases h10 : u = 10
    · subst h10
      refine ⟨1, wI (sftM Md 189) 0 18 9, rfl, ?_, rfl, fun j k q1 q2 => ?_, wI_v _ _ _ _, fun k hk => ?_⟩
      · rw [if_pos rfl, m_shL]
        rfl
      · simp only [wI, sftM]
        rw [if_neg (by omega), if_neg (by omega)]
      · rw [wI_a _ _ _ _ (by decide)]
        exact if_pos ⟨rfl, hk⟩
    · refine ⟨0, Md, by rw [if_neg h10], if_neg (fun q => h10 ((nI_eq (by omega) (by decide)).mp q)), rfl, fun _ _ _ _ => rfl, u5, fun k hk => by simp⟩
  obtain ⟨s, M2, s0, s1, s2, s3, s4, s5⟩ := hsh
  have s6 : s = 1 ∧ u = 10 ∨ s = 0 ∧ u < 10 := by
    by_cases h10 : u = 10
    · rw [if_pos h10] at s0
      exact Or.inl ⟨s0, h10⟩
    · rw [if_neg h10] at s0
      exact Or.inr ⟨s0, by omega⟩
  have hmin : (if nI 10 < nI (u + 1) then nI 10 else nI (u + 1)) = nI (u - s + 1) := by
    rcases s6 with ⟨rfl, rfl⟩ | ⟨rfl, hu⟩
    · rfl
    · rw [if_neg (nI_nlt (by omega) (by omega))]
      rfl
  rw [hmin]
  refine ⟨_, _, rfl, by
    rw [show ((9 : Int32)) = 9 from rfl]
    exact (congrArg (fun z => bP z _) s1).trans (by rw [bP_s, m_noteL (u := u - s) (by omega) s4, b2_s, lt_eq]), ?_⟩
  have k1 : ∀ j k, j ≠ 7 → (j < 9 + 4 * f ∨ 9 + 4 * f + 3 < j) → (wI (wI M1 7 1 (nI ((f + 1) % 10))) 7 2 (nI (u - s + 1))).1 j k = Mc.1 j k := fun j k q1 q2 => by rw [wI_a _ _ _ _ q1, wI_a _ _ _ _ q1, e3 j k (by omega)]
  have v1 : (cpM M2 9 (21 * (u - s)) 6 0 21).1 0 18 = nI (u - s) := by rw [cp_a _ _ _ _ _ _ (by decide), s4]
  rw [v1, nI_add]
  have k2 : ∀ j k, j ≠ 9 → (j ≠ 0 ∨ k ≠ 18) → (wI (cpM M2 9 (21 * (u - s)) 6 0 21) 0 18 (nI (u - s + 1))).1 j k = Md.1 j k := fun j k q1 q2 => by
    simp only [wI]
    rw [if_neg (by omega), cp_a _ _ _ _ _ _ q1, s3 j k q1 q2]
  refine ⟨RT_cong h.1 (fun k => k1 _ _ (by omega) (by omega)) (fun j k q1 q2 => k1 _ _ (by omega) (by omega)) (fun k _ => k2 _ _ (by omega) (by omega)) (fun k _ => k2 _ _ (by omega) (by omega)) (fun k _ => k2 _ _ (by omega) (by omega)), RN_cong h.2.1 (fun j k q1 q2 => k1 _ _ (by omega) (by omega)) (fun k => k2 _ _ (by omega) (by omega)), RX_cong h.2.2.1 (k1 _ _ (by omega) (by omega)) (fun k => k1 _ _ (by omega) (by omega)) (k2 _ _ (by omega) (by omega)) (fun k => k2 _ _ (by omega) (by omega)), ⟨u - s + 1, (f + 1) % 10, fun i => if i + s = u then μ else υ (i + s), by omega, by omega, ?_, wI_v _ _ _ _, wI_v _ _ _ _, fun i hi => ?_⟩, RI_cong h.2.2.2.2.1 (fun k => k1 _ _ (by omega) (by omega)) (fun k => k2 _ _ (by omega) (by omega)) (fun j k q1 q2 => k1 _ _ (by omega) (by omega)) (fun k => k2 _ _ (by omega) (by omega)), RS_cong h.2.2.2.2.2.1 (k1 _ _ (by omega) (by omega)) (k2 _ _ (by omega) (by omega)) (fun k => k1 _ _ (by omega) (by omega)) (fun k => k1 _ _ (by omega) (by omega)) (fun k => k2 _ _ (by omega) (by omega)) (fun k => k2 _ _ (by omega) (by omega)), ?_⟩
  · rw [wI_k _ _ _ _ (by decide), wI_v]
  · have hp : ((f + 1) % 10 + 10 - (u - s + 1) + i) % 10 = (f + 10 - u + (i + s)) % 10 := by omega
    rw [hp]
    by_cases e : i + s = u
    · simp only [if_pos e]
      rw [show (f + 10 - u + (i + s)) % 10 = f by omega]
      refine ⟨CM_cong e4 (fun j k q1 q2 => by rw [wI_a _ _ _ _ (by omega), wI_a _ _ _ _ (by omega)]), fun k hk => ?_, h.2.1.2.2⟩
      rw [wI_a _ _ _ _ (by decide), show i = u - s by omega, cp_v _ _ _ _ _ _ hk, s3 _ _ (by decide) (by omega), Nat.zero_add, h.2.1.2.1 k hk]
    · simp only [if_neg e]
      obtain ⟨d1, d2, d3⟩ := u6 (i + s) (by omega)
      have hl2 := Nat.mod_lt (f + 10 - u + (i + s)) (show 0 < 10 by decide)
      have hne : (f + 10 - u + (i + s)) % 10 ≠ f := by omega
      refine ⟨CM_cong d1 (fun j k q1 q2 => k1 _ _ (by omega) (by omega)), fun k hk => ?_, d3⟩
      rw [wI_a _ _ _ _ (by decide), cp_o _ _ _ _ _ _ (by omega), s5 _ (by omega), show 21 * i + k + 21 * s = 21 * (i + s) + k by omega, d2 k hk]
  · show M1.2 = M2.2
    rw [e2, s2, h.2.2.2.2.2.2]

/-! ===== town ===== -/
def bgK (τ ω : Nat → Nat) (k : Nat) : Nat → Nat := fun i => if 1 ≤ i ∧ i < 1 + k then (if i - 1 < τ 0 then ω (i - 1) else 0) else if 7 ≤ i ∧ i < 7 + k then i - 7 else 0
theorem bg_0 (τ ω : Nat → Nat) (i : Nat) : bgK τ ω 0 i = 0 := by
  unfold bgK
  rw [if_neg (by omega), if_neg (by omega)]
theorem bg_o (τ ω : Nat → Nat) {k i : Nat} (h : i = 0 ∨ 12 < i) (hk : k ≤ 6) : bgK τ ω k i = 0 := by
  unfold bgK
  rw [if_neg (by omega), if_neg (by omega)]
theorem bg_1 (τ ω : Nat → Nat) {r : Nat} (h : r < 6) : bgK τ ω 6 (1 + r) = if r < τ 0 then ω r else 0 := by
  unfold bgK
  rw [if_pos (by omega), Nat.add_sub_cancel_left]
theorem bg_7 (τ ω : Nat → Nat) {r : Nat} (h : r < 6) : bgK τ ω 6 (7 + r) = r := by
  unfold bgK
  rw [if_neg (by omega), if_pos (by omega), Nat.add_sub_cancel_left]
theorem bg_s (τ ω : Nat → Nat) {k : Nat} (hk : k < 6) : uN (uN (bgK τ ω k) (1 + k) (if k < τ 0 then ω k else 0)) (7 + k) k = bgK τ ω (k + 1) := by
  funext i
  simp only [uN, bgK]
  by_cases e : i = 7 + k
  · subst e
    rw [if_pos rfl, if_neg (by omega), if_pos (by omega), Nat.add_sub_cancel_left]
  · rw [if_neg e]
    by_cases e2 : i = 1 + k
    · subst e2
      rw [if_pos rfl, if_pos (show 1 ≤ 1 + k ∧ 1 + k < 1 + (k + 1) by omega), Nat.add_sub_cancel_left]
    · rw [if_neg e2]
      by_cases q : 1 ≤ i ∧ i < 1 + k
      · rw [if_pos q, if_pos (show 1 ≤ i ∧ i < 1 + (k + 1) by omega)]
      · rw [if_neg q, if_neg (show ¬ (1 ≤ i ∧ i < 1 + (k + 1)) by omega)]
        by_cases q2 : 7 ≤ i ∧ i < 7 + k
        · rw [if_pos q2, if_pos (show 7 ≤ i ∧ i < 7 + (k + 1) by omega)]
        · rw [if_neg q2, if_neg (show ¬ (7 ≤ i ∧ i < 7 + (k + 1)) by omega)]
theorem bg_jm (τ ω : Nat → Nat) {r : Nat} (hr : r < 6) : jm (bgK τ ω 6) r = 2 ^ r := by
  refine bits_ext (jm_lt _ _) (pow2_lt hr) (fun k hk => ?_)
  rw [jm_b, bg_7 _ _ hk, bg_7 _ _ hr, Nat.testBit_two_pow]
  by_cases e : k = r
  · simp [e, hr]
  · simp [hk, beq_false_of_ne e, show ¬ r = k from fun z => e z.symm]
theorem bg_MI {τ ω : Nat → Nat} (ok : OKt τ ω) : MI τ (bgK τ ω 6) := by
  refine ⟨by rw [bg_o _ _ (by omega) (by omega)]; omega, fun r hr => ?_, fun r hr => ?_, fun r q1 q2 => bg_7 _ _ q2, ⟨by rw [bg_o _ _ (by omega) (by omega)]; decide, fun c hc => ?_⟩, ⟨by rw [bg_o _ _ (by omega) (by omega)]; decide, fun c hc => ?_⟩, fun c hc => by rw [bg_o _ _ (by omega) (by omega)]; omega⟩
  · rw [bg_1 _ _ hr, bg_o _ _ (by omega) (by omega)]
    split
    · next q =>
      have := ok.2 r q
      omega
    · omega
  · rw [bg_7 _ _ hr, bg_7 _ _ hr]
    omega
  · rw [bg_o _ _ (by omega) (by omega), Nat.zero_testBit] at hc
    cases hc
  · rw [bg_o _ _ (by omega) (by omega), Nat.zero_testBit] at hc
    cases hc
theorem c_begin {M0 : Mm} {b : Nat} (hb : 6 < b) {τ ω : Nat → Nat} (ho : ∀ r, r < τ 0 → M0.1 (b + 1) r = nI (ω r)) : ∃ M', fX1_begin 3 b M0 = some M' ∧ far M0 M' ∧ CM τ 3 M' (bgK τ ω 6) := by
  obtain ⟨q, hq, h1, h2, h3, h4, h5, h6⟩ := loop_inv0 (fun m (s : Int32 × Mm) => fX1_begin_L17 3 b m s.1 s.2) (fun k s => s.1 = nI k ∧ far M0 s.2 ∧ s.2.1 3 3 = 0 ∧ s.2.1 3 4 = 0 ∧ s.2.1 3 5 = 0 ∧ ∀ r, r < k → s.2.1 4 r = M0.1 (b + 1) r ∧ s.2.1 5 r = nI (2 ^ r)) 6 (fun s => s.1 = nI 6 ∧ far M0 s.2 ∧ s.2.1 3 3 = 0 ∧ s.2.1 3 4 = 0 ∧ s.2.1 3 5 = 0 ∧ ∀ r, r < 6 → s.2.1 4 r = M0.1 (b + 1) r ∧ s.2.1 5 r = nI (2 ^ r)) (n := 50000) (s := (nI 0, wI (wI (wI M0 3 3 0) 3 4 0) 3 5 0)) (by omega) ⟨rfl, (((far.r M0).w (by omega)).w (by omega)).w (by omega), by rw [wI_o _ _ _ _ (by omega), wI_o _ _ _ _ (by omega), wI_v], by rw [wI_o _ _ _ _ (by omega), wI_v], wI_v _ _ _ _, fun r hr => absurd hr (by omega)⟩
    (fun n s hs => by
      obtain ⟨x, M⟩ := s
      obtain ⟨s1, s2, s3, s4, s5, s6⟩ := hs
      dsimp only at s1 s2 s3 s4 s5 s6
      subst s1
      dsimp only
      rw [fX1_begin_L17, if_pos (show (6 : Int32) ≤ nI 6 by decide)]
      exact ⟨_, rfl, rfl, s2, s3, s4, s5, s6⟩)
    (fun n k s hk hs => by
      obtain ⟨x, M⟩ := s
      obtain ⟨s1, s2, s3, s4, s5, s6⟩ := hs
      dsimp only at s1 s2 s3 s4 s5 s6
      subst s1
      dsimp only
      rw [fX1_begin_L17, if_neg (show ¬ (6 : Int32) ≤ nI k from nI_ge (b := 6) hk (by decide)), ix_ok hk (by decide), ix_ok hk (by decide), nI_clamp (by omega), s2.2 (b + 1) k (by omega), lt_eq, bit_ok (by omega), bP_s, ix_ok hk (by decide), lt_eq, nI_1]
      refine ⟨(nI (k + 1), wI (wI M (3 + 1) k (M0.1 (b + 1) k)) (3 + 2) k (nI (2 ^ k))), rfl, rfl, (s2.w (by omega)).w (by omega), by rw [wI_o _ _ _ _ (by omega), wI_o _ _ _ _ (by omega), s3], by rw [wI_o _ _ _ _ (by omega), wI_o _ _ _ _ (by omega), s4], by rw [wI_o _ _ _ _ (by omega), wI_o _ _ _ _ (by omega), s5], fun r hr => ?_⟩
      dsimp only
      by_cases e : r = k
      · subst e
        rw [wI_v, wI_o _ _ _ _ (by omega), wI_v]
        exact ⟨rfl, rfl⟩
      · rw [wI_o _ _ _ _ (by omega), wI_o _ _ _ _ (by omega), wI_o _ _ _ _ (by omega), wI_o _ _ _ _ (by omega)]
        exact s6 r (by omega))
  obtain ⟨q1, M'⟩ := q
  dsimp only at h1 h2 h3 h4 h5 h6
  subst h1
  unfold fX1_begin
  rw [lt_eq, lt_eq, lt_eq, show (0 : Int32) = nI 0 from rfl]
  rw [show (0 : Int32) = nI 0 from rfl] at hq
  rw [hq, b2_s]
  refine ⟨M', rfl, h2, ?_, ?_, ?_, fun r hr => ?_, fun r hr => ?_, fun c hc hb' => ?_⟩
  · rw [h3, bg_o _ _ (by omega) (by omega)]
    rfl
  · rw [h4, bg_o _ _ (by omega) (by omega)]
    rfl
  · rw [h5, bg_o _ _ (by omega) (by omega)]
    rfl
  · rw [bg_1 _ _ hr.1, if_pos hr.2, ← ho r hr.2]
    exact (h6 r hr.1).1
  · rw [bg_jm _ _ hr]
    exact (h6 r hr).2
  · rw [bg_o _ _ (by omega) (by omega), Nat.zero_testBit] at hb'
    cases hb'
theorem c_anewL {M0 : Mm} : ∃ M', fX6_beginAnew_L29 50000 0 M0 = some (nI 2, M') ∧ M'.2 = M0.2 ∧ (∀ j i, j ≠ 50 → M'.1 j i = M0.1 j i) ∧ ∀ i, i < 2 → M'.1 50 i = 0 := by
  obtain ⟨q, hq, h1, h2, h3, h4⟩ := loop_inv0 (fun m (s : Int32 × Mm) => fX6_beginAnew_L29 m s.1 s.2) (fun k s => s.1 = nI k ∧ s.2.2 = M0.2 ∧ (∀ j i, j ≠ 50 → s.2.1 j i = M0.1 j i) ∧ ∀ i, i < k → s.2.1 50 i = 0) 2 (fun s => s.1 = nI 2 ∧ s.2.2 = M0.2 ∧ (∀ j i, j ≠ 50 → s.2.1 j i = M0.1 j i) ∧ ∀ i, i < 2 → s.2.1 50 i = 0) (n := 50000) (s := (nI 0, M0)) (by omega) ⟨rfl, rfl, fun _ _ _ => rfl, fun i hi => absurd hi (by omega)⟩
    (fun n s hs => by
      obtain ⟨x, M⟩ := s
      obtain ⟨s1, s2, s3, s4⟩ := hs
      dsimp only at s1 s2 s3 s4
      subst s1
      dsimp only
      rw [fX6_beginAnew_L29, if_pos (show (2 : Int32) ≤ nI 2 by decide)]
      exact ⟨_, rfl, rfl, s2, s3, s4⟩)
    (fun n k s hk hs => by
      obtain ⟨x, M⟩ := s
      obtain ⟨s1, s2, s3, s4⟩ := hs
      dsimp only at s1 s2 s3 s4
      subst s1
      dsimp only
      rw [fX6_beginAnew_L29, if_neg (show ¬ (2 : Int32) ≤ nI k from nI_ge (b := 2) hk (by decide)), ix_ok hk (by decide), nI_clamp (by omega), lt_eq, nI_1]
      refine ⟨(nI (k + 1), wI M 50 k 0), rfl, rfl, s2, fun j i hj => by rw [wI_o _ _ _ _ (by omega), s3 j i hj], fun i hi => ?_⟩
      dsimp only
      by_cases e : i = k
      · subst e
        rw [wI_v]
      · rw [wI_k _ _ _ _ e, s4 i (by omega)])
  obtain ⟨q1, M'⟩ := q
  dsimp only at h1 h2 h3 h4
  subst h1
  exact ⟨M', hq, h2, h3, h4⟩
theorem m_set1 {M0 : Mm} : ∃ M', fX7_settles_L2 50000 0 M0 = some (nI 4, M') ∧ M'.2 = M0.2 ∧ (∀ j i, (j ≠ 2 ∨ 4 ≤ i) → M'.1 j i = M0.1 j i) ∧ ∀ i, i < 4 → M'.1 2 i = M0.1 2 (4 + i) := by
  obtain ⟨q, hq, h1, h2, h3, h4⟩ := loop_inv0 (fun m (s : Int32 × Mm) => fX7_settles_L2 m s.1 s.2) (fun k s => s.1 = nI k ∧ s.2.2 = M0.2 ∧ (∀ j i, (j ≠ 2 ∨ 4 ≤ i) → s.2.1 j i = M0.1 j i) ∧ ∀ i, i < k → s.2.1 2 i = M0.1 2 (4 + i)) 4 (fun s => s.1 = nI 4 ∧ s.2.2 = M0.2 ∧ (∀ j i, (j ≠ 2 ∨ 4 ≤ i) → s.2.1 j i = M0.1 j i) ∧ ∀ i, i < 4 → s.2.1 2 i = M0.1 2 (4 + i)) (n := 50000) (s := (nI 0, M0)) (by omega) ⟨rfl, rfl, fun _ _ _ => rfl, fun i hi => absurd hi (by omega)⟩
    (fun n s hs => by
      obtain ⟨x, M⟩ := s
      obtain ⟨s1, s2, s3, s4⟩ := hs
      dsimp only at s1 s2 s3 s4
      subst s1
      dsimp only
      rw [fX7_settles_L2, if_pos (show (4 : Int32) ≤ nI 4 by decide)]
      exact ⟨_, rfl, rfl, s2, s3, s4⟩)
    (fun n k s hk hs => by
      obtain ⟨x, M⟩ := s
      obtain ⟨s1, s2, s3, s4⟩ := hs
      dsimp only at s1 s2 s3 s4
      subst s1
      dsimp only
      rw [fX7_settles_L2, if_neg (show ¬ (4 : Int32) ≤ nI k from nI_ge (b := 4) hk (by decide)), show (4 : Int32) = nI 4 from rfl, nI_add, ix_ok (by omega) (by decide), ix_ok (by omega) (by decide), nI_clamp (by omega), nI_clamp (by omega), s3 2 (4 + k) (by omega), lt_eq, nI_1]
      refine ⟨(nI (k + 1), wI M 2 k (M0.1 2 (4 + k))), rfl, rfl, s2, fun j i hj => by rw [wI_o _ _ _ _ (by omega), s3 j i hj], fun i hi => ?_⟩
      dsimp only
      by_cases e : i = k
      · subst e
        rw [wI_v]
      · rw [wI_k _ _ _ _ e, s4 i (by omega)])
  obtain ⟨q1, M'⟩ := q
  dsimp only at h1 h2 h3 h4
  subst h1
  exact ⟨M', hq, h2, h3, h4⟩
theorem m_set2 {M0 : Mm} : ∃ M', fX7_settles_L29 50000 0 M0 = some (nI 5, M') ∧ M'.2 = M0.2 ∧ (∀ j i, ((j ≠ 4 ∧ j ≠ 5) ∨ 5 ≤ i) → M'.1 j i = M0.1 j i) ∧ ∀ i, i < 5 → M'.1 4 i = M0.1 4 (5 + i) ∧ M'.1 5 i = M0.1 5 (5 + i) := by
  obtain ⟨q, hq, h1, h2, h3, h4⟩ := loop_inv0 (fun m (s : Int32 × Mm) => fX7_settles_L29 m s.1 s.2) (fun k s => s.1 = nI k ∧ s.2.2 = M0.2 ∧ (∀ j i, ((j ≠ 4 ∧ j ≠ 5) ∨ 5 ≤ i) → s.2.1 j i = M0.1 j i) ∧ ∀ i, i < k → s.2.1 4 i = M0.1 4 (5 + i) ∧ s.2.1 5 i = M0.1 5 (5 + i)) 5 (fun s => s.1 = nI 5 ∧ s.2.2 = M0.2 ∧ (∀ j i, ((j ≠ 4 ∧ j ≠ 5) ∨ 5 ≤ i) → s.2.1 j i = M0.1 j i) ∧ ∀ i, i < 5 → s.2.1 4 i = M0.1 4 (5 + i) ∧ s.2.1 5 i = M0.1 5 (5 + i)) (n := 50000) (s := (nI 0, M0)) (by omega) ⟨rfl, rfl, fun _ _ _ => rfl, fun i hi => absurd hi (by omega)⟩
    (fun n s hs => by
      obtain ⟨x, M⟩ := s
      obtain ⟨s1, s2, s3, s4⟩ := hs
      dsimp only at s1 s2 s3 s4
      subst s1
      dsimp only
      rw [fX7_settles_L29, if_pos (show (5 : Int32) ≤ nI 5 by decide)]
      exact ⟨_, rfl, rfl, s2, s3, s4⟩)
    (fun n k s hk hs => by
      obtain ⟨x, M⟩ := s
      obtain ⟨s1, s2, s3, s4⟩ := hs
      dsimp only at s1 s2 s3 s4
      subst s1
      dsimp only
      rw [fX7_settles_L29, if_neg (show ¬ (5 : Int32) ≤ nI k from nI_ge (b := 5) hk (by decide)), show (5 : Int32) = nI 5 from rfl, nI_add, ix_ok (by omega) (by decide), ix_ok (by omega) (by decide), nI_clamp (by omega), nI_clamp (by omega), s3 4 (5 + k) (by omega), lt_eq, ix_ok (by omega) (by decide), ix_ok (by omega) (by decide), wI_o _ _ _ _ (by omega), s3 5 (5 + k) (by omega), lt_eq, nI_1]
      refine ⟨(nI (k + 1), wI (wI M 4 k (M0.1 4 (5 + k))) 5 k (M0.1 5 (5 + k))), rfl, rfl, s2, fun j i hj => by rw [wI_o _ _ _ _ (by omega), wI_o _ _ _ _ (by omega), s3 j i hj], fun i hi => ?_⟩
      dsimp only
      by_cases e : i = k
      · subst e
        rw [wI_v, wI_o _ _ _ _ (by omega), wI_v]
        exact ⟨rfl, rfl⟩
      · rw [wI_o _ _ _ _ (by omega), wI_o _ _ _ _ (by omega), wI_o _ _ _ _ (by omega), wI_o _ _ _ _ (by omega)]
        exact s4 i (by omega))
  obtain ⟨q1, M'⟩ := q
  dsimp only at h1 h2 h3 h4
  subst h1
  exact ⟨M', hq, h2, h3, h4⟩
theorem m_set3 {M0 : Mm} : ∃ M', fX7_settles_L70 50000 0 M0 = some (nI 21, M') ∧ far6 M0 M' ∧ ∀ i, i < 21 → M'.1 6 i = 0 := by
  obtain ⟨q, hq, h1, h2, h3⟩ := loop_inv0 (fun m (s : Int32 × Mm) => fX7_settles_L70 m s.1 s.2) (fun k s => s.1 = nI k ∧ far6 M0 s.2 ∧ ∀ i, i < k → s.2.1 6 i = 0) 21 (fun s => s.1 = nI 21 ∧ far6 M0 s.2 ∧ ∀ i, i < 21 → s.2.1 6 i = 0) (n := 50000) (s := (nI 0, M0)) (by omega) ⟨rfl, far6.r _, fun i hi => absurd hi (by omega)⟩
    (fun n s hs => by
      obtain ⟨x, M⟩ := s
      obtain ⟨s1, s2, s3⟩ := hs
      dsimp only at s1 s2 s3
      subst s1
      dsimp only
      rw [fX7_settles_L70, if_pos (show (21 : Int32) ≤ nI 21 by decide)]
      exact ⟨_, rfl, rfl, s2, s3⟩)
    (fun n k s hk hs => by
      obtain ⟨x, M⟩ := s
      obtain ⟨s1, s2, s3⟩ := hs
      dsimp only at s1 s2 s3
      subst s1
      dsimp only
      rw [fX7_settles_L70, if_neg (show ¬ (21 : Int32) ≤ nI k from nI_ge (b := 21) hk (by decide)), ix_ok (by omega) (by decide), nI_clamp (by omega), lt_eq, nI_1]
      refine ⟨(nI (k + 1), wI M 6 k 0), rfl, rfl, s2.w, fun i hi => ?_⟩
      dsimp only
      by_cases e : i = k
      · subst e
        rw [wI_v]
      · rw [wI_k _ _ _ _ e, s3 i (by omega)])
  obtain ⟨q1, M'⟩ := q
  dsimp only at h1 h2 h3
  subst h1
  exact ⟨M', hq, h2, h3⟩
theorem m_set4 {M0 : Mm} {τ ω : Nat → Nat} (h0 : τ 0 ≤ 6) (ht : M0.1 2 0 = nI (τ 0)) (ho : ∀ r, r < τ 0 → M0.1 3 r = nI (ω r)) (hz : ∀ i, i < 21 → M0.1 6 i = 0) : ∃ M', fX7_settles_L91 50000 0 M0 = some (nI 6, M') ∧ far6 M0 M' ∧ MMr (M'.1 6) (bgK τ ω 6) := by
  obtain ⟨q, hq, h1, h2, h3⟩ := loop_inv0 (fun m (s : Int32 × Mm) => fX7_settles_L91 m s.1 s.2) (fun k s => s.1 = nI k ∧ far6 M0 s.2 ∧ MMr (s.2.1 6) (bgK τ ω k)) 6 (fun s => s.1 = nI 6 ∧ far6 M0 s.2 ∧ MMr (s.2.1 6) (bgK τ ω 6)) (n := 50000) (s := (nI 0, M0)) (by omega) ⟨rfl, far6.r _, fun i hi => by rw [bg_0]; exact hz i hi⟩
    (fun n s hs => by
      obtain ⟨x, M⟩ := s
      obtain ⟨s1, s2, s3⟩ := hs
      dsimp only at s1 s2 s3
      subst s1
      dsimp only
      rw [fX7_settles_L91, if_pos (show (6 : Int32) ≤ nI 6 by decide)]
      exact ⟨_, rfl, rfl, s2, s3⟩)
    (fun n k s hk hs => by
      obtain ⟨x, M⟩ := s
      obtain ⟨s1, s2, s3⟩ := hs
      dsimp only at s1 s2 s3
      subst s1
      have e2 : M.1 2 ((0 : Int32)).toNatClampNeg = nI (τ 0) := (s2.2 2 0 (by decide)).trans ht
      dsimp only
      rw [fX7_settles_L91, if_neg (show ¬ (6 : Int32) ≤ nI k from nI_ge (b := 6) hk (by decide)), e2, show (1 : Int32) = nI 1 from rfl, show (7 : Int32) = nI 7 from rfl, nI_add, nI_add, nI_clamp (by omega), nI_clamp (by omega), nI_add]
      by_cases q : k < τ 0
      · rw [if_neg (nI_ge q (by omega)), ix_ok hk (by decide), ix_ok (by omega) (by decide), nI_clamp (by omega), s2.2 3 k (by decide), ho k q, lt_eq, ix_ok (by omega) (by decide), lt_eq]
        refine ⟨(nI (k + 1), wI (wI M 6 (1 + k) (nI (ω k))) 6 (7 + k) (nI k)), rfl, rfl, s2.w.w, ?_⟩
        rw [← bg_s _ _ hk, if_pos q]
        exact MM_w (MM_w s3)
      · rw [if_pos (nI_le (by omega) (by omega)), ix_ok (by omega) (by decide), lt_eq, ix_ok (by omega) (by decide), lt_eq]
        refine ⟨(nI (k + 1), wI (wI M 6 (1 + k) 0) 6 (7 + k) (nI k)), rfl, rfl, s2.w.w, ?_⟩
        rw [← bg_s _ _ hk, if_neg q]
        exact MM_w (MM_w s3))
  obtain ⟨q1, M'⟩ := q
  dsimp only at h1 h2 h3
  subst h1
  exact ⟨M', hq, h2, h3⟩
theorem m_settles {M0 : Mm} {τ ω : Nat → Nat} {fm fl : Bool} (e : DRm τ ω fm fl M0) (ok : OKt τ ω) : ∃ M', fX7_settles M0 = some M' ∧ M'.2 = M0.2 ∧ MTt M' τ ∧ MMr (M'.1 6) (bgK τ ω 6) ∧ M'.1 0 3 = 0 ∧ M'.1 0 18 = 0 ∧ M'.1 0 21 = 0 ∧ M'.1 8 0 = 0 ∧ M'.1 8 1 = 0 := by
  obtain ⟨M1, a1, a2, a3, a4⟩ := m_set1 (M0 := M0)
  obtain ⟨M2, b1, b2, b3, b4⟩ := m_set2 (M0 := M1)
  obtain ⟨M3, c1, c2, c3⟩ := m_set3 (M0 := M2)
  obtain ⟨e1, e2, e3, e4, e5, e6, e7⟩ := e
  have h2 := ok.1.2.2.1
  have f2 : ∀ i, i < 4 → M3.1 2 i = M0.1 2 (4 + i) := fun i hi => by rw [c2.2 _ _ (by omega), b3 _ _ (by omega), a4 i hi]
  obtain ⟨M4, d1, d2, d3⟩ := m_set4 (M0 := M3) (τ := τ) (ω := ω) ok.1.1 (by rw [f2 0 (by omega), e1]) (fun r hr => by rw [c2.2 _ _ (by omega), b3 _ _ (by omega), a3 _ _ (by omega), e5 r hr]) c3
  unfold fX7_settles
  rw [a1, b2_s, b1, b2_s, c1, b2_s, d1, b2_s, lt_eq, lt_eq, lt_eq, lt_eq, lt_eq, show Int32.toNatClampNeg 0 = 0 by decide, show Int32.toNatClampNeg 1 = 1 by decide]
  have F2 : ∀ a i, a ≠ 0 → a ≠ 8 → (wI (wI (wI (wI (wI M4 0 3 0) 0 21 0) 0 18 0) 8 0 0) 8 1 0).1 a i = M4.1 a i := fun a i q1 q2 => by rw [wI_o _ _ _ _ (by omega), wI_o _ _ _ _ (by omega), wI_o _ _ _ _ (by omega), wI_o _ _ _ _ (by omega), wI_o _ _ _ _ (by omega)]
  refine ⟨_, rfl, ?_, ⟨?_, ?_, ?_, ?_, fun w hw => ?_⟩, fun k hk => ?_, ?_, ?_, ?_, ?_, ?_⟩
  · show M4.2 = M0.2
    rw [d2.1, c2.1, b2, a2]
  · rw [F2 _ _ (by omega) (by omega), d2.2 _ _ (by omega), f2 0 (by omega), e1]
  · rw [F2 _ _ (by omega) (by omega), d2.2 _ _ (by omega), f2 1 (by omega), e2]
  · rw [F2 _ _ (by omega) (by omega), d2.2 _ _ (by omega), f2 2 (by omega), e3]
  · rw [F2 _ _ (by omega) (by omega), d2.2 _ _ (by omega), f2 3 (by omega), e4]
  · have b := b4 w (by omega)
    rw [F2 _ _ (by omega) (by omega), F2 _ _ (by omega) (by omega), d2.2 _ _ (by omega), d2.2 _ _ (by omega), c2.2 _ _ (by omega), c2.2 _ _ (by omega), b.1, b.2, a3 _ _ (by omega), a3 _ _ (by omega)]
    exact e6 w hw
  · rw [F2 _ _ (by omega) (by omega)]
    exact d3 k hk
  · rw [wI_o _ _ _ _ (by omega), wI_o _ _ _ _ (by omega), wI_o _ _ _ _ (by omega), wI_o _ _ _ _ (by omega), wI_v]
  · rw [wI_o _ _ _ _ (by omega), wI_o _ _ _ _ (by omega), wI_v]
  · rw [wI_o _ _ _ _ (by omega), wI_o _ _ _ _ (by omega), wI_o _ _ _ _ (by omega), wI_v]
  · rw [wI_o _ _ _ _ (by omega), wI_v]
  · rw [wI_v]
def tau0 : Nat → Nat := fun k => if k = 1 then 3 else if k = 3 then 70 else 0
theorem OK0 : OKt tau0 (fun _ => 0) := by
  refine ⟨⟨by decide, by decide, by decide, by decide, fun w hw => ?_⟩, fun r _ => Nat.zero_le _⟩
  exact absurd hw (by simp [tau0])
/-- a new town: the two are as at the beginning of it -/
theorem R_new {t : Nat} {τ τ' ω' : Nat → Nat} {fm fl : Bool} {it n : Nat} {Mc Md : Mm} (ht : t = 64 ∨ t = 68) (h07 : Mc.1 0 7 = nI t) (h08 : Mc.1 0 8 = nI (132 - t)) (hru : ∃ f, f < 10 ∧ Mc.1 7 1 = nI f) (h2 : Mc.2 = Md.2) (d : DRc (132 - t) τ' ω' fm fl it Mc) (e : DRm τ' ω' fm fl Md) (ok : OKt τ' ω') : ∃ C1 D1, fX6_beginAnew (wI (wI (wI Mc 0 7 (nI (132 - t))) 0 8 (nI t)) 1 1 0) = some C1 ∧ C1.1 0 7 = nI (132 - t) ∧ C1.1 (132 - t) 3 = nI it ∧ fX7_settles Md = some D1 ∧ Rel C1 D1 := by
  obtain ⟨D1, s1, s2, s3, s4, s5, s6, s7, s8, s9⟩ := m_settles e ok
  obtain ⟨f, f1, f2⟩ := hru
  obtain ⟨d1, d2, d3, d4, d5, d6, d7, d8, d9⟩ := d
  have hT : isT (132 - t) = true := by rcases ht with rfl | rfl <;> rfl
  obtain ⟨B1, b1, b2, b3⟩ := c_begin (M0 := wI (wI (wI Mc 0 7 (nI (132 - t))) 0 8 (nI t)) 1 1 0) (b := 132 - t) (by omega) (τ := τ') (ω := ω') (fun r hr => by rw [wI_o _ _ _ _ (by omega), wI_o _ _ _ _ (by omega), wI_o _ _ _ _ (by omega), d6 r hr])
  obtain ⟨C1, c1, c2, c3, c4⟩ := c_anewL (M0 := wI (wI B1 7 2 0) 61 2 0)
  have K : ∀ a k, (a ≠ 50 ∧ (a < 3 ∨ 6 < a) ∧ (a ≠ 7 ∨ k ≠ 2) ∧ (a ≠ 61 ∨ k ≠ 2) ∧ (a ≠ 0 ∨ (k ≠ 7 ∧ k ≠ 8)) ∧ (a ≠ 1 ∨ k ≠ 1)) → C1.1 a k = Mc.1 a k := fun a k q => by
    rw [c3 _ _ (by omega), wI_o _ _ _ _ (by omega), wI_o _ _ _ _ (by omega), b2.2 _ _ (by omega), wI_o _ _ _ _ (by omega), wI_o _ _ _ _ (by omega), wI_o _ _ _ _ (by omega)]
  have k7 : C1.1 0 7 = nI (132 - t) := by rw [c3 _ _ (by omega), wI_o _ _ _ _ (by omega), wI_o _ _ _ _ (by omega), b2.2 _ _ (by omega), wI_o _ _ _ _ (by omega), wI_o _ _ _ _ (by omega), wI_v]
  have k8 : C1.1 0 8 = nI t := by rw [c3 _ _ (by omega), wI_o _ _ _ _ (by omega), wI_o _ _ _ _ (by omega), b2.2 _ _ (by omega), wI_o _ _ _ _ (by omega), wI_v]
  have k11 : C1.1 1 1 = 0 := by rw [c3 _ _ (by omega), wI_o _ _ _ _ (by omega), wI_o _ _ _ _ (by omega), b2.2 _ _ (by omega), wI_v]
  refine ⟨C1, D1, ?_, k7, by rw [K _ _ (by omega), d1], s1, 132 - t, τ', bgK τ' ω' 6, ⟨ok.1, ⟨hT, k7, by rw [K _ _ (by omega), d2], by rw [K _ _ (by omega), d3], by rw [K _ _ (by omega), d4], by rw [K _ _ (by omega), d5], fun w hw => by rw [K _ _ (by omega), K _ _ (by omega)]; exact d7 w hw⟩, by rw [k8, show 132 - (132 - t) = t by omega], s3⟩, ⟨CM_cong b3 (fun j k q1 q2 => by rw [c3 _ _ (by omega), wI_o _ _ _ _ (by omega), wI_o _ _ _ _ (by omega)]), s4, bg_MI ok⟩, ⟨0, fun _ => 0, by omega, k11, s5, fun j hj => absurd hj (by omega)⟩, ⟨0, f, fun _ _ => 0, by omega, f1, by rw [K _ _ (by omega), f2], ?_, s6, fun i hi => absurd hi (by omega)⟩, fun i hi => ⟨false, c4 i hi, ?_, fun z => absurd z (by decide)⟩, ⟨0, fun _ => 0, fun _ => false, by omega, ?_, s7, fun i hi => absurd hi (by omega)⟩, ?_⟩
  · unfold fX6_beginAnew
    rw [show (wI (wI (wI Mc 0 7 (nI (132 - t))) 0 8 (nI t)) 1 1 0).1 0 7 = nI (132 - t) by rw [wI_o _ _ _ _ (by omega), wI_o _ _ _ _ (by omega), wI_v], nI_clamp (by omega), gd_ok hT, b1, bP_s, lt_eq, lt_eq, c1, b2_s]
  · rw [c3 _ _ (by omega), wI_o _ _ _ _ (by omega), wI_v]
    rfl
  · have : i = 0 ∨ i = 1 := by omega
    rcases this with rfl | rfl
    · exact s8
    · exact s9
  · rw [c3 _ _ (by omega), wI_v]
    rfl
  · rw [c2, s2, ← h2]
    exact b2.1
theorem R_town {Mc Md : Mm} (h : Rel Mc Md) : ∃ r Mc' Md', fX6_town Mc = some (r, Mc') ∧ fX7_town Md = some (r, Md') ∧ Rel Mc' Md' := by
  obtain ⟨t, τ, μ, h⟩ := h
  have hz := h.z
  have ht := isT_2 h.1.2.1.1
  have hT : isT (132 - t) = true := by rcases ht with rfl | rfl <;> rfl
  obtain ⟨n, x, hn, x1, x2, x3⟩ := id hz.2.2.1
  obtain ⟨u, f, υ, u1, u2, u3, -⟩ := id hz.2.2.2.1
  have hx : ∀ j, j < n → x j ≤ 255 := fun j hj => (x3 j hj).2.2
  have h08 : Mc.1 0 8 = nI (132 - t) := h.1.2.2.1
  unfold fX6_town fX7_town fX4_reads fX5_tellNothing fX7_begins
  rw [lt_eq (wI Md 0 0 0)]
  generalize wI Md 0 0 0 = Mz at *
  -- the class before it reads
  have cK : keepC t Mc (wI (wI (wI (wI (wI (wI (wI (wI Mc 1 2 0) 1 6 0) 1 7 0) (132 - t) 3 0) (132 - t) 4 0) (132 - t) 5 3) (132 - t) 6 0) (132 - t) 7 70) := by
    have a : ∀ k, k ≠ 1 → IC t 1 k := fun k hk => by unfold IC; omega
    have b : ∀ k, IC t (132 - t) k := fun k => by unfold IC; omega
    exact ((((((((keepC.r t Mc).w (a _ (by decide))).w (a _ (by decide))).w (a _ (by decide))).w (b _)).w (b _)).w (b _)).w (b _)).w (b _)
  have cT : TC (wI (wI (wI (wI (wI (wI (wI (wI Mc 1 2 0) 1 6 0) 1 7 0) (132 - t) 3 0) (132 - t) 4 0) (132 - t) 5 3) (132 - t) 6 0) (132 - t) 7 70) n x 0 := by
    have h0 : TC (wI Mc 1 2 (nI 0)) n x 0 := ⟨by rw [wI_o _ _ _ _ (by omega), x1], fun j hj => by rw [wI_o _ _ _ _ (by omega), (x3 j hj).1], wI_v _ _ _ _⟩
    exact ((((((h0.w (by omega)).w (by omega)).w (by omega)).w (by omega)).w (by omega)).w (by omega)).w (by omega)
  have cD : DRc (132 - t) tau0 (fun _ => 0) false false 0 (wI (wI (wI (wI (wI (wI (wI (wI Mc 1 2 0) 1 6 0) 1 7 0) (132 - t) 3 0) (132 - t) 4 0) (132 - t) 5 3) (132 - t) 6 0) (132 - t) 7 70) := by
    refine ⟨?_, ?_, ?_, ?_, ?_, fun r hr => absurd hr (by simp [tau0]), fun w hw => absurd hw (by simp [tau0]), ?_, ?_⟩
    · rw [wI_o _ _ _ _ (by omega), wI_o _ _ _ _ (by omega), wI_o _ _ _ _ (by omega), wI_o _ _ _ _ (by omega), wI_v]
      rfl
    · rw [wI_o _ _ _ _ (by omega), wI_o _ _ _ _ (by omega), wI_o _ _ _ _ (by omega), wI_v]
      rfl
    · rw [wI_o _ _ _ _ (by omega), wI_o _ _ _ _ (by omega), wI_v]
      rfl
    · rw [wI_o _ _ _ _ (by omega), wI_v]
      rfl
    · rw [wI_v]
      rfl
    · rw [wI_o _ _ _ _ (by omega), wI_o _ _ _ _ (by omega), wI_o _ _ _ _ (by omega), wI_o _ _ _ _ (by omega), wI_o _ _ _ _ (by omega), wI_o _ _ _ _ (by omega), wI_v]
      rfl
    · rw [wI_o _ _ _ _ (by omega), wI_o _ _ _ _ (by omega), wI_o _ _ _ _ (by omega), wI_o _ _ _ _ (by omega), wI_o _ _ _ _ (by omega), wI_v]
      rfl
  -- the reference before it reads
  have mK : keepM Mz (wI (wI (wI (wI (wI (wI (wI Mz 0 8 (-1)) 0 4 0) 0 9 0) 2 4 0) 2 5 3) 2 6 0) 2 7 70) := by
    have a : IM 0 8 ∧ IM 0 4 ∧ IM 0 9 ∧ IM 2 4 ∧ IM 2 5 ∧ IM 2 6 ∧ IM 2 7 := by unfold IM; omega
    exact (((((((keepM.r Mz).w a.1).w a.2.1).w a.2.2.1).w a.2.2.2.1).w a.2.2.2.2.1).w a.2.2.2.2.2.1).w a.2.2.2.2.2.2
  have mT : TM0 (wI (wI (wI (wI (wI (wI (wI Mz 0 8 (-1)) 0 4 0) 0 9 0) 2 4 0) 2 5 3) 2 6 0) 2 7 70) n x 0 := by
    have h0 : TM0 (wI (wI Mz 0 8 (-1)) 0 4 (nI 0)) n x 0 := ⟨by rw [wI_o _ _ _ _ (by omega), wI_o _ _ _ _ (by omega), x2], fun j hj => by rw [wI_o _ _ _ _ (by omega), wI_o _ _ _ _ (by omega), (x3 j hj).2.1], wI_v _ _ _ _⟩
    exact ((((h0.w (by omega)).w (by omega)).w (by omega)).w (by omega)).w (by omega)
  have mD : DRm tau0 (fun _ => 0) false false (wI (wI (wI (wI (wI (wI (wI Mz 0 8 (-1)) 0 4 0) 0 9 0) 2 4 0) 2 5 3) 2 6 0) 2 7 70) := by
    refine ⟨?_, ?_, ?_, ?_, fun r hr => absurd hr (by simp [tau0]), fun w hw => absurd hw (by simp [tau0]), ?_⟩
    · rw [wI_o _ _ _ _ (by omega), wI_o _ _ _ _ (by omega), wI_o _ _ _ _ (by omega), wI_v]
      rfl
    · rw [wI_o _ _ _ _ (by omega), wI_o _ _ _ _ (by omega), wI_v]
      rfl
    · rw [wI_o _ _ _ _ (by omega), wI_v]
      rfl
    · rw [wI_v]
      rfl
    · rw [wI_o _ _ _ _ (by omega), wI_o _ _ _ _ (by omega), wI_o _ _ _ _ (by omega), wI_o _ _ _ _ (by omega), wI_v]
      rfl
  have m8 : (wI (wI (wI (wI (wI (wI (wI Mz 0 8 (-1)) 0 4 0) 0 9 0) 2 4 0) 2 5 3) 2 6 0) 2 7 70).1 0 8 = -1 := by
    rw [wI_o _ _ _ _ (by omega), wI_o _ _ _ _ (by omega), wI_o _ _ _ _ (by omega), wI_o _ _ _ _ (by omega), wI_o _ _ _ _ (by omega), wI_o _ _ _ _ (by omega), wI_v]
  rw [h08, nI_clamp (by omega), gd_ok hT]
  simp only [ct4, ct5, ct6, ct7, lt_eq, bP_s]
  generalize wI (wI (wI (wI (wI (wI (wI (wI Mc 1 2 0) 1 6 0) 1 7 0) (132 - t) 3 0) (132 - t) 4 0) (132 - t) 5 3) (132 - t) 6 0) (132 - t) 7 70 = C0 at *
  generalize wI (wI (wI (wI (wI (wI (wI Mz 0 8 (-1)) 0 4 0) 0 9 0) 2 4 0) 2 5 3) 2 6 0) 2 7 70 = D0 at *
  obtain ⟨D1, e1, e2, e3⟩ := m_token hn hx (Nat.zero_le n) mT
  have L := town_loop hn hx ht rfl n 0 0 0 tau0 (fun _ => 0) false false C0 D1 50000 50000 (by omega) (by omega) (by omega) (by omega) (by omega) cT e3 (by rw [e2.2 0 8 (Or.inr (Or.inr (by decide))), m8]) cD (e2.D mD) OK0
  rw [e1, bP_s, show (0 : Int32) = nI 0 from rfl]
  rcases L with ⟨Mc', Md', τ', ω', fm', fl', it', r1, r2, r3, r4, r5, r6, r7, r8⟩ | ⟨Mc', Md', s, v, r1, r2, r3, r4, r5, r6, r7⟩
  · have k1 := cK.t r4
    have k2 := (mK.t e2.K).t r5
    have i07 : ∀ k, ¬ IC t 0 k := fun k => by unfold IC; omega
    have i71 : ¬ IC t 7 1 := by unfold IC; omega
    have a07 : Mc'.1 0 7 = nI t := by rw [k1.2 _ _ (i07 7)]; exact h.1.2.1.2.1
    have a08 : Mc'.1 0 8 = nI (132 - t) := by rw [k1.2 _ _ (i07 8), h08]
    obtain ⟨C1, D2, c1, c2, c3, c4, c5⟩ := R_new (τ := τ) (n := n) ht a07 a08 ⟨f, u2, by rw [k1.2 _ _ i71, u3]⟩ (by rw [k1.1, k2.1, hz.2.2.2.2.2.2]) r7 r8 r3
    rw [r1, r2]
    simp only [bS_r, b2_s]
    rw [if_neg (show ¬ (1 : Int32) = nI 0 by decide), a07, a08, nI_clamp (by omega), nI_clamp (by omega), gd_ok h.1.2.1.1, gd_ok hT, show nI 0 = 0 from rfl, c1, bP_s, c2, nI_clamp (by omega), gd_ok hT, c3, m_well r6, bP_s, if_neg (show ¬ (1 : Int32) = 0 by decide), c4, bP_s]
    exact ⟨_, _, _, rfl, rfl, c5⟩
  · have k1 := cK.t r4
    have k2 := (mK.t e2.K).t r5
    rw [r1, r2]
    simp only [bS_r, b2_s]
    rw [if_pos (show (0 : Int32) = nI 0 from rfl), m_ill r7 (by omega), bP_s, if_pos (show (0 : Int32) = nI 0 from rfl), r6, r7]
    exact ⟨_, _, _, rfl, rfl, t, τ, μ, hz.cong k1.2 k2.2 k1.1 k2.1⟩

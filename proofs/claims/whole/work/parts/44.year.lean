/-! ===== year ===== -/
def oU (μ : Nat → Nat) (k : Nat) : Nat → Nat := fun i => if 1 ≤ i ∧ i < 1 + k then μ i + 1 else μ i
def lv (τ μ : Nat → Nat) (k : Nat) : Nat := mk 6 (fun c => (μ 14).testBit c && (decide (k ≤ c) || decide (μ (15 + c) + 1 < τ 3)))
def yU (τ μ : Nat → Nat) (k : Nat) : Nat → Nat := fun i => if i = 14 then lv τ μ k else if 15 ≤ i ∧ i < 15 + k ∧ (μ 14).testBit (i - 15) = true then μ i + 1 else μ i
def dies (τ μ : Nat → Nat) (c : Nat) : Bool := (μ 14).testBit c && decide (τ 3 ≤ μ (15 + c) + 1)
theorem oU_s (μ : Nat → Nat) (k : Nat) : uN (oU μ k) (1 + k) (μ (1 + k) + 1) = oU μ (k + 1) := by
  funext i
  simp only [uN, oU]
  by_cases e : i = 1 + k
  · subst e
    rw [if_pos rfl, if_pos (by omega)]
  · rw [if_neg e]
    by_cases q : 1 ≤ i ∧ i < 1 + k
    · rw [if_pos q, if_pos (by omega)]
    · rw [if_neg q, if_neg (by omega)]
theorem oU_0 (μ : Nat → Nat) : oU μ 0 = μ := by
  funext i
  exact if_neg (by omega)
theorem lvs_lt (τ μ : Nat → Nat) (k : Nat) : lv τ μ k < 64 := mk_lt6 _ (by decide)
theorem lv_bit (τ μ : Nat → Nat) (k c : Nat) : (lv τ μ k).testBit c = (decide (c < 6) && ((μ 14).testBit c && (decide (k ≤ c) || decide (μ (15 + c) + 1 < τ 3)))) := mk_bit _ 6 c
theorem lv_0 (τ : Nat → Nat) {μ : Nat → Nat} (h : μ 14 < 64) : lv τ μ 0 = μ 14 := by
  refine bits_ext (lvs_lt _ _ _) h (fun k hk => ?_)
  rw [lv_bit]
  simp [hk]
theorem yU_0 (τ : Nat → Nat) {μ : Nat → Nat} (h : μ 14 < 64) : yU τ μ 0 = μ := by
  funext i
  unfold yU
  by_cases e : i = 14
  · rw [if_pos e, lv_0 τ h, e]
  · rw [if_neg e, if_neg (by omega)]
/-- the one that doesn't live -/
theorem yU_no (τ : Nat → Nat) {μ : Nat → Nat} {k : Nat} (hb : (μ 14).testBit k = false) : yU τ μ (k + 1) = yU τ μ k := by
  funext i
  unfold yU
  by_cases e : i = 14
  · rw [if_pos e, if_pos e]
    refine bits_ext (lvs_lt _ _ _) (lvs_lt _ _ _) (fun c hc => ?_)
    rw [lv_bit, lv_bit]
    by_cases q : c = k
    · subst q
      simp [hb]
    · by_cases q2 : k ≤ c
      · simp [q2, show k + 1 ≤ c by omega]
      · simp [q2, show ¬ k + 1 ≤ c by omega]
  · rw [if_neg e, if_neg e]
    by_cases q : i = 15 + k
    · subst q
      rw [if_neg (by simp [hb]), if_neg (by omega)]
    · by_cases q2 : 15 ≤ i ∧ i < 15 + k ∧ (μ 14).testBit (i - 15) = true
      · rw [if_pos q2, if_pos ⟨q2.1, by omega, q2.2.2⟩]
      · rw [if_neg q2, if_neg (fun z => q2 ⟨z.1, by omega, z.2.2⟩)]
theorem lv_yes (τ : Nat → Nat) {μ : Nat → Nat} {k : Nat} (hl : μ (15 + k) + 1 < τ 3) : lv τ μ (k + 1) = lv τ μ k := by
  refine bits_ext (lvs_lt _ _ _) (lvs_lt _ _ _) (fun c hc => ?_)
  rw [lv_bit, lv_bit]
  by_cases q : c = k
  · subst q
    simp [hl]
  · by_cases q2 : k ≤ c
    · simp [q2, show k + 1 ≤ c by omega]
    · simp [q2, show ¬ k + 1 ≤ c by omega]
theorem lv_die (τ : Nat → Nat) {μ : Nat → Nat} {k : Nat} (hl : ¬ μ (15 + k) + 1 < τ 3) : lv τ μ (k + 1) = wo (lv τ μ k) k := by
  refine bits_ext (lvs_lt _ _ _) (mk_lt6 _ (by decide)) (fun c hc => ?_)
  unfold wo
  rw [mk_bit, lv_bit, lv_bit]
  by_cases q : c = k
  · subst q
    simp [hl]
  · by_cases q2 : k ≤ c
    · simp [q2, q, show k + 1 ≤ c by omega]
    · simp [q2, q, show ¬ k + 1 ≤ c by omega]
/-- the one that lives -/
theorem yU_s (τ : Nat → Nat) {μ : Nat → Nat} {k : Nat} (hb : (μ 14).testBit k = true) : uN (uN (yU τ μ k) (15 + k) (μ (15 + k) + 1)) 14 (lv τ μ (k + 1)) = yU τ μ (k + 1) := by
  funext i
  simp only [uN, yU]
  by_cases e : i = 14
  · rw [if_pos e, if_pos e]
  · rw [if_neg e, if_neg e, if_neg e]
    by_cases q : i = 15 + k
    · subst q
      rw [if_pos rfl, if_pos ⟨by omega, by omega, by rw [Nat.add_sub_cancel_left]; exact hb⟩]
    · rw [if_neg q]
      by_cases q2 : 15 ≤ i ∧ i < 15 + k ∧ (μ 14).testBit (i - 15) = true
      · rw [if_pos q2, if_pos ⟨q2.1, by omega, q2.2.2⟩]
      · rw [if_neg q2, if_neg (fun z => q2 ⟨z.1, by omega, z.2.2⟩)]
theorem yU_14 (τ μ : Nat → Nat) (k : Nat) : yU τ μ k 14 = lv τ μ k := rfl
theorem yU_15 (τ μ : Nat → Nat) (k : Nat) : yU τ μ k (15 + k) = μ (15 + k) := by
  unfold yU
  rw [if_neg (by omega), if_neg (by omega)]
theorem yU_lo (τ μ : Nat → Nat) (k : Nat) {i : Nat} (h : i < 14) : yU τ μ k i = μ i := by
  unfold yU
  rw [if_neg (by omega), if_neg (by omega)]
def far (M0 M : Mm) : Prop := M.2 = M0.2 ∧ ∀ j i, (j < 3 ∨ 6 < j) → M.1 j i = M0.1 j i
def far6 (M0 M : Mm) : Prop := M.2 = M0.2 ∧ ∀ j i, j ≠ 6 → M.1 j i = M0.1 j i
theorem far.w {M0 M : Mm} (h : far M0 M) {a k : Nat} {v : Int32} (ha : 3 ≤ a ∧ a ≤ 6) : far M0 (wI M a k v) :=
  ⟨h.1, fun j i q => by rw [wI_a _ _ _ _ (by omega), h.2 j i q]⟩
theorem far6.w {M0 M : Mm} (h : far6 M0 M) {k : Nat} {v : Int32} : far6 M0 (wI M 6 k v) :=
  ⟨h.1, fun j i q => by rw [wI_a _ _ _ _ q, h.2 j i q]⟩
theorem far.r (M : Mm) : far M M := ⟨rfl, fun _ _ _ => rfl⟩
theorem far6.r (M : Mm) : far6 M M := ⟨rfl, fun _ _ _ => rfl⟩
theorem far.CTt {t : Nat} {τ : Nat → Nat} {M0 M : Mm} (h : far M0 M) (hc : CTt t M0 τ) : CTt t M τ := by
  have ht := isT_2 hc.1
  obtain ⟨b1, b2, b3, b4, b5, b6, b7⟩ := hc
  refine ⟨b1, by rw [h.2 _ _ (by omega), b2], by rw [h.2 _ _ (by omega), b3], by rw [h.2 _ _ (by omega), b4], by rw [h.2 _ _ (by omega), b5], by rw [h.2 _ _ (by omega), b6], fun w hw => ?_⟩
  rw [h.2 _ _ (by omega), h.2 _ _ (by omega)]
  exact b7 w hw
theorem far6.MTt {τ : Nat → Nat} {M0 M : Mm} (h : far6 M0 M) (hc : MTt M0 τ) : MTt M τ := by
  obtain ⟨d1, d2, d3, d4, d5⟩ := hc
  refine ⟨by rw [h.2 _ _ (by omega), d1], by rw [h.2 _ _ (by omega), d2], by rw [h.2 _ _ (by omega), d3], by rw [h.2 _ _ (by omega), d4], fun w hw => ?_⟩
  rw [h.2 _ _ (by omega), h.2 _ _ (by omega)]
  exact d5 w hw
theorem c_yearL1 {t : Nat} {M0 : Mm} {τ μ : Nat → Nat} (hT : TI τ) (hc : CTt t M0 τ) (hm : CM τ 3 M0 μ) (hI : ∀ r, r < 6 → μ (1 + r) ≤ 1000) : ∃ M', fX1_passYear_L12 3 t 50000 0 M0 = some (nI (τ 0), M') ∧ far M0 M' ∧ CM τ 3 M' (oU μ (τ 0)) := by
  have h6 := hT.1
  obtain ⟨b, hb, h1, h2, h3⟩ := loop_inv0 (fun m (q : Int32 × Mm) => fX1_passYear_L12 3 t m q.1 q.2) (fun k q => q.1 = nI k ∧ far M0 q.2 ∧ CM τ 3 q.2 (oU μ k)) (τ 0) (fun b => b.1 = nI (τ 0) ∧ far M0 b.2 ∧ CM τ 3 b.2 (oU μ (τ 0))) (n := 50000) (s := (nI 0, M0)) (by omega) ⟨rfl, far.r _, by rw [oU_0]; exact hm⟩
    (fun n s hs => by
      obtain ⟨x, M⟩ := s
      obtain ⟨s1, s2, s3⟩ := hs
      dsimp only at s1 s2 s3
      subst s1
      have hct := s2.CTt hc
      dsimp only
      rw [fX1_passYear_L12, show M.1 t 4 = nI (τ 0) from hct.2.2.1, if_pos (Int32.le_refl _)]
      exact ⟨_, rfl, rfl, s2, s3⟩)
    (fun n k s hk hs => by
      obtain ⟨x, M⟩ := s
      obtain ⟨s1, s2, s3⟩ := hs
      dsimp only at s1 s2 s3
      subst s1
      have hct := s2.CTt hc
      have ho : M.1 (3 + 1) k = nI (μ (1 + k)) := (s3.2.2.2.1 k (by omega)).trans (by rw [show oU μ k (1 + k) = μ (1 + k) from if_neg (by omega)])
      dsimp only
      rw [fX1_passYear_L12, show M.1 t 4 = nI (τ 0) from hct.2.2.1, if_neg (nI_ge hk (by omega)), ix_ok (by omega) (by decide), ix_ok (by omega) (by decide), nI_clamp (by omega), ho, nI_1, lt_eq, nI_1]
      refine ⟨(nI (k + 1), _), rfl, rfl, s2.w (by omega), ?_⟩
      rw [← oU_s]
      exact CM_old s3 (by omega))
  obtain ⟨b1, b2⟩ := b
  dsimp only at h1 h2 h3
  subst h1
  exact ⟨b2, hb, h2, h3⟩
theorem c_yearL2 {t : Nat} {M0 : Mm} {τ μ : Nat → Nat} (hT : TI τ) (hc : CTt t M0 τ) (hm : CM τ 3 M0 μ) (h14 : μ 14 < 64) (hI : ∀ c, (μ 14).testBit c = true → μ (15 + c) < τ 3) : ∃ M', fX1_passYear_L40 3 t 50000 0 0 M0 = some (nI (cn (τ 1) (dies τ μ)), nI (τ 1), M') ∧ far M0 M' ∧ CM τ 3 M' (yU τ μ (τ 1)) := by
  have h6 := hT.2.1.2
  have h3 := hT.2.2.2.1
  obtain ⟨b, hb, h1, h2, h3, h4⟩ := loop_inv0 (fun m (q : Int32 × Int32 × Mm) => fX1_passYear_L40 3 t m q.1 q.2.1 q.2.2) (fun k q => q.1 = nI (cn k (dies τ μ)) ∧ q.2.1 = nI k ∧ far M0 q.2.2 ∧ CM τ 3 q.2.2 (yU τ μ k)) (τ 1) (fun b => b.1 = nI (cn (τ 1) (dies τ μ)) ∧ b.2.1 = nI (τ 1) ∧ far M0 b.2.2 ∧ CM τ 3 b.2.2 (yU τ μ (τ 1))) (n := 50000) (s := (nI 0, nI 0, M0)) (by omega) ⟨rfl, rfl, far.r _, by rw [yU_0 τ h14]; exact hm⟩
    (fun n s hs => by
      obtain ⟨y, x, M⟩ := s
      obtain ⟨s0, s1, s2, s3⟩ := hs
      dsimp only at s0 s1 s2 s3
      subst s1
      have hct := s2.CTt hc
      dsimp only
      rw [fX1_passYear_L40, show M.1 t 5 = nI (τ 1) from hct.2.2.2.1, if_pos (Int32.le_refl _)]
      exact ⟨_, rfl, s0, rfl, s2, s3⟩)
    (fun n k s hk hs => by
      obtain ⟨y, x, M⟩ := s
      obtain ⟨s0, s1, s2, s3⟩ := hs
      dsimp only at s0 s1 s2 s3
      subst s1
      subst s0
      have hct := s2.CTt hc
      have hl : M.1 3 5 = nI (lv τ μ k) := s3.2.2.1
      have hk6 : k < 6 := by omega
      have hbit : (lv τ μ k).testBit k = (μ 14).testBit k := by rw [lv_bit]; simp [hk6]
      dsimp only
      rw [fX1_passYear_L40, show M.1 t 5 = nI (τ 1) from hct.2.2.2.1, if_neg (nI_ge hk (by omega)), hl, has_ok (lvs_lt _ _ _) hk6, bP_s, hbit, nI_1, cn]
      rcases Bool.eq_false_or_eq_true ((μ 14).testBit k) with hp | hp
      · have ho : M.1 (3 + 3) k = nI (μ (15 + k)) := (s3.2.2.2.2.2 k hk6 (by rw [yU_14, hbit, hp])).trans (by rw [yU_15])
        have hag := hI k hp
        have ha := CM_age s3 (c := k) (v := μ (15 + k) + 1) hk6
        rw [hp, if_neg (show ¬ b2i true = 0 by decide), ix_ok hk6 (by decide), ix_ok hk6 (by decide), nI_clamp (by omega), ho, nI_1, lt_eq, ix_ok hk6 (by decide), wI_v, wI_a _ _ _ _ (show t ≠ 3 + 3 by have := isT_2 hc.1; omega), show M.1 t 7 = nI (τ 3) from hct.2.2.2.2.2.1]
        by_cases hlt : μ (15 + k) + 1 < τ 3
        · rw [if_pos (nI_lt hlt (by omega))]
          have hd : dies τ μ k = false := by simp [dies, hp]; omega
          refine ⟨(_, nI (k + 1), _), rfl, by rw [hd]; rfl, rfl, s2.w (by omega), ?_⟩
          rw [← yU_s τ hp, lv_yes τ hlt]
          refine CM_ext ha (fun i hi => ?_)
          by_cases e : i = 14
          · subst e
            rw [uN_v, uN_k _ _ _ (by omega), yU_14]
          · rw [uN_k _ _ _ e]
        · rw [if_neg (nI_nlt (by omega) (by omega)), bit_ok (by omega), bP_s, wI_a _ _ _ _ (show 3 ≠ 3 + 3 by decide), hl, wo_ok (lvs_lt _ _ _) hk6, lt_eq, ← lv_die τ hlt, nI_1]
          have hd : dies τ μ k = true := by simp [dies, hp]; omega
          refine ⟨(_, nI (k + 1), _), rfl, by rw [hd]; rfl, rfl, (s2.w (by omega)).w (by omega), ?_⟩
          rw [← yU_s τ hp]
          refine CM_lives ha (fun c hc hb => ?_)
          rw [lv_bit] at hb
          by_cases e : c = k
          · subst e
            rw [wI_v, uN_v]
          · rw [wI_k _ _ _ _ e, uN_k _ _ _ (by omega)]
            refine s3.2.2.2.2.2 c hc ?_
            rw [yU_14, lv_bit]
            simp at hb ⊢
            refine ⟨hb.1, hb.2.1, ?_⟩
            rcases hb.2.2 with z | z
            · left; omega
            · right; exact z
      · have hd : dies τ μ k = false := by simp [dies, hp]
        rw [hp, if_pos (show b2i false = 0 by decide)]
        refine ⟨(_, nI (k + 1), _), rfl, by rw [hd]; rfl, rfl, s2, ?_⟩
        rw [yU_no τ hp]
        exact s3)
  obtain ⟨b1, b2, b3⟩ := b
  dsimp only at h1 h2 h3 h4
  subst h1
  subst h2
  exact ⟨b3, hb, h3, h4⟩

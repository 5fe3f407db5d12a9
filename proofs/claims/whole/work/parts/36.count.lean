/-! ===== count, elder ===== -/
theorem R_count {Mc Md : Mm} (h : Rel Mc Md) (p : Int32) : ∃ r Md', fX6_count p Mc = some r ∧ fX7_count p Md = some (r, Md') ∧ Rel Mc Md' := by
  obtain ⟨t, τ, μ, h⟩ := h
  have hz := h.z
  have hT := h.1.1
  obtain ⟨n, x, hn, h1, h2, h3⟩ := id hz.2.2.1
  obtain ⟨u, sw, sb, hu, g1, g2, g3⟩ := id hz.2.2.2.2.2.1
  have ein : fX7_in p 0 3 = some (b2i (inB p 4)) := m_inB (B := 3) (by decide) p
  obtain ⟨-, -, c1, c2, c3, c4, -⟩ := h.1.2.1
  obtain ⟨m1, m2, m3, m4, -⟩ := hz.1.2.2.2
  unfold fX6_count fX7_count
  rw [lt_eq, ein, bP_s, c_told h.1.2.1.2.1 h.1.2.1.1]
  simp only [gd_ok h.1.2.1.1]
  generalize wI Md 0 0 0 = Mz at *
  simp only [ofN]
  rw [h1, h2, g1, g2, c1, c2, c3, c4]
  rcases what_cases 6 (by decide) p with ⟨k, hk, rfl, hb⟩ | ⟨hb, hx⟩
  · rcases what_cases 4 (by decide) (nI k) with ⟨w, hw, ew, hb2⟩ | ⟨hb2, hx⟩
    · have : k = w := (nI_eq (by omega) (by omega)).mp ew
      subst this
      rw [hb2, if_neg (show ¬ b2i true = nI 0 by decide), ix_ok (by omega) (by decide), nI_clamp (by omega)]
      have : k = 0 ∨ k = 1 ∨ k = 2 ∨ k = 3 := by omega
      rcases this with rfl | rfl | rfl | rfl
      · rw [m1]; exact ⟨_, _, rfl, rfl, t, τ, μ, hz⟩
      · rw [m2]; exact ⟨_, _, rfl, rfl, t, τ, μ, hz⟩
      · rw [m3]; exact ⟨_, _, rfl, rfl, t, τ, μ, hz⟩
      · rw [m4]; exact ⟨_, _, rfl, rfl, t, τ, μ, hz⟩
    · rw [hb2, if_pos (show b2i false = nI 0 from rfl)]
      have : k = 4 ∨ k = 5 := by
        have : ∀ j, j < 4 → k ≠ j := fun j hj e => hx j hj (by rw [e])
        have a0 := this 0 (by decide)
        have a1 := this 1 (by decide)
        have a2 := this 2 (by decide)
        have a3 := this 3 (by decide)
        omega
      rcases this with rfl | rfl <;> exact ⟨_, _, rfl, rfl, t, τ, μ, hz⟩
  · have hb2 : inB p 4 = false := by
      rcases what_cases 4 (by decide) p with ⟨k, hk, e, -⟩ | ⟨hb, -⟩
      · exact absurd e (hx k (by omega))
      · exact hb
    rw [hb2, if_pos (show b2i false = nI 0 from rfl)]
    simp only [if_neg (hx 0 (by decide)), if_neg (hx 1 (by decide)), if_neg (hx 2 (by decide)), if_neg (hx 3 (by decide)), if_neg (hx 4 (by decide)), if_neg (hx 5 (by decide))]
    exact ⟨_, _, rfl, rfl, t, τ, μ, hz⟩
def old1 (μ : Nat → Nat) (e c : Nat) : Bool := decide (μ (15 + c) < μ (15 + e)) || (decide (μ (15 + e) = μ (15 + c)) && decide (e < c))
def ahead (μ : Nat → Nat) (c : Nat) : Nat := cn 6 (fun e => (μ 14).testBit e && old1 μ e c)
theorem cn_cut {p : Nat → Bool} {n : Nat} : ∀ m, n ≤ m → (∀ k, n ≤ k → k < m → p k = false) → cn m p = cn n p := by
  intro m
  induction m with
  | zero => intro h _; have : n = 0 := by omega
            rw [this]
  | succ m ih =>
    intro h hz
    by_cases e : n = m + 1
    · rw [e]
    · rw [cn, hz m (by omega) (by omega), if_neg (by simp), Nat.add_zero, ih (by omega) (fun k h1 h2 => hz k h1 (by omega))]
theorem c_ahead {M : Mm} {τ μ : Nat → Nat} (hm : CM τ 3 M μ) (hI : MI τ μ) {c : Nat} (hc : c < 6) (hl : (μ 14).testBit c = true) : fX1_howManyAheadOf 3 (nI c) M = some (nI (ahead μ c)) := by
  have hac : M.1 6 c = nI (μ (15 + c)) := hm.2.2.2.2.2 c hc hl
  have hbc := hI.2.2.2.2.2.2 c hc
  have L : fX1_howManyAheadOf_L4 3 (nI c) M 50000 0 0 = some (nI (ahead μ c), nI 6) :=
    loop_0u (fun n (q : Int32 × Int32) => fX1_howManyAheadOf_L4 3 (nI c) M n q.1 q.2) (fun k => (nI (cn k (fun e => (μ 14).testBit e && old1 μ e c)), nI k)) 6 _ (by omega)
    (fun n => by
      dsimp only
      rw [fX1_howManyAheadOf_L4]
      simp only [ofN]
      rw [if_pos (nI_le (Nat.le_refl _) (by decide))]
      rfl)
    (fun n k hkk => by
      dsimp only
      rw [fX1_howManyAheadOf_L4]
      simp only [ofN, nI_add]
      rw [if_neg (nI_ge hkk (by decide)), ix_ok hkk (by decide), ix_ok hc (by decide), ix_ok hkk (by decide), ix_ok hc (by decide), nI_clamp (by omega), nI_clamp (by omega), show M.1 3 5 = nI (μ 14) from hm.2.2.1, has_ok hI.2.2.2.2.2.1.1 hkk, show 3 + 3 = 6 from rfl, hac]
      simp only [bP_s, cn]
      rcases Bool.eq_false_or_eq_true ((μ 14).testBit k) with hp | hp
      case inr => simp [hp, b2i_f]
      case inl =>
        have hbk := hI.2.2.2.2.2.2 k hkk
        simp only [hp]
        rw [show M.1 6 k = nI (μ (15 + k)) from hm.2.2.2.2.2 k hkk hp]
        simp only [if_neg (show ¬ b2i true = nI 0 by decide), if_neg (show ¬ nI 1 = nI 0 by decide), if_pos (show nI 0 = nI 0 from rfl), nI_ltI (show μ (15 + c) < 2 ^ 31 by omega) (show μ (15 + k) < 2 ^ 31 by omega), nI_eq (show μ (15 + k) < 2 ^ 31 by omega) (show μ (15 + c) < 2 ^ 31 by omega), nI_leI (show c < 2 ^ 31 by omega) (show k < 2 ^ 31 by omega)]
        unfold old1
        by_cases a1 : μ (15 + c) < μ (15 + k)
        · simp [a1]
        · by_cases a2 : μ (15 + k) = μ (15 + c)
          · by_cases a3 : c ≤ k
            · simp [a2, a3, show ¬ k < c by omega]
            · simp [a2, a3, show k < c by omega]
          · simp [a1, a2])
  unfold fX1_howManyAheadOf
  rw [L]
  rfl
theorem m_ahead {M : Mm} {τ μ : Nat → Nat} (hT : TI τ) (hc : MTt M τ) (hm : MMr (M.1 6) μ) (hI : MI τ μ) {c : Nat} (hc6 : c < 6) : fX7_elder_L33 M (nI c) 50000 0 0 = some (nI (ahead μ c), nI (τ 1)) := by
  have h6 := hT.2.1.2
  have h2 : M.1 2 ((1 : Int32)).toNatClampNeg = nI (τ 1) := hc.2.1
  have h14 : M.1 6 ((14 : Int32)).toNatClampNeg = nI (μ 14) := hm 14 (by decide)
  have hbc := hI.2.2.2.2.2.2 c hc6
  have e : ahead μ c = cn (τ 1) (fun e => (μ 14).testBit e && old1 μ e c) := cn_cut 6 h6 (fun k h1 _ => by
    cases hp : (μ 14).testBit k with
    | false => rfl
    | true =>
      have := hI.2.2.2.2.1.2 k ((hI.2.2.2.2.2.1.2 k hp).1)
      omega)
  rw [e]
  exact loop_0u (fun n (q : Int32 × Int32) => fX7_elder_L33 M (nI c) n q.1 q.2) (fun k => (nI (cn k (fun e => (μ 14).testBit e && old1 μ e c)), nI k)) (τ 1) _ (by omega)
    (fun n => by
      dsimp only
      rw [fX7_elder_L33, h2, if_pos (nI_le (Nat.le_refl _) (by omega))])
    (fun n k hkk => by
      have hbk := hI.2.2.2.2.2.2 k (by omega)
      dsimp only
      rw [fX7_elder_L33, h2, if_neg (nI_ge hkk (by omega)), h14, mhas_ok hI.2.2.2.2.2.1.1 (by omega)]
      simp only [ofN, nI_add]
      rw [ix_ok (by omega) (by decide), ix_ok (by omega) (by decide), ix_ok (by omega) (by decide), ix_ok (by omega) (by decide), nI_clamp (by omega), nI_clamp (by omega), hm (15 + k) (by omega), hm (15 + c) (by omega)]
      simp only [bP_s, cn]
      rcases Bool.eq_false_or_eq_true ((μ 14).testBit k) with hp | hp
      case inr => simp [hp, b2i_f]
      case inl =>
        simp only [hp, if_neg (show ¬ b2i true = nI 0 by decide), if_neg (show ¬ nI 1 = nI 0 by decide), if_pos (show nI 0 = nI 0 from rfl), nI_ltI (show μ (15 + c) < 2 ^ 31 by omega) (show μ (15 + k) < 2 ^ 31 by omega), nI_eq (show μ (15 + k) < 2 ^ 31 by omega) (show μ (15 + c) < 2 ^ 31 by omega), nI_leI (show c < 2 ^ 31 by omega) (show k < 2 ^ 31 by omega)]
        unfold old1
        by_cases a1 : μ (15 + c) < μ (15 + k)
        · simp [a1]
        · by_cases a2 : μ (15 + k) = μ (15 + c)
          · by_cases a3 : c ≤ k
            · simp [a2, a3, show ¬ k < c by omega]
            · simp [a2, a3, show k < c by omega]
          · simp [a1, a2])
def elderR (τ μ : Nat → Nat) (k : Nat) : Int32 := match (List.range' 0 (τ 1)).find? (fun c => (μ 14).testBit c && decide (ahead μ c = k)) with | some i => nI i | none => -9
theorem ahead_le (μ : Nat → Nat) (c : Nat) : ahead μ c ≤ 6 := cn_le _ 6
theorem R_elder {Mc Md : Mm} (h : Rel Mc Md) (p : Int32) : ∃ r Md', fX6_elder p Mc = some r ∧ fX7_elder p Md = some (r, Md') ∧ Rel Mc Md' := by
  obtain ⟨t, τ, μ, h⟩ := h
  have hz := h.z
  have hT := h.1.1
  have h6 := hT.2.1.2
  have hI := h.2.1.2.2
  have ein : fX7_in p 0 5 = some (b2i (inB p 6)) := m_inB (B := 5) (by decide) p
  unfold fX6_elder fX7_elder
  rw [lt_eq, ein, bP_s]
  generalize wI Md 0 0 0 = Mz at *
  rcases isX_cases 6 (by decide) p with ⟨k, hk, rfl, hb⟩ | ⟨hb, hx⟩
  · rw [hb, if_neg (nI_pos (by omega)), if_neg (show ¬ b2i true = 0 by decide), if_pos (show nI k < (6 : Int32) from nI_lt (b := 6) hk (by decide))]
    have L1 := loop_find (fun n (q : Int32) => fX6_elder_L14 (nI k) Mc n q) (fun c => nI c) (τ 1) (fun c => (μ 14).testBit c && decide (ahead μ c = k)) (.inl (nI (τ 1))) (fun c => .inr (nI c))
      (fun n => by
        rw [fX6_elder_L14, c_told h.1.2.1.2.1 h.1.2.1.1, gd_ok h.1.2.1.1, h.1.2.1.2.2.2.1, if_pos (nI_le (Nat.le_refl _) (by omega))])
      (fun n c hc hp => by
        have hp : ((μ 14).testBit c && decide (ahead μ c = k)) = true := hp
        simp only [Bool.and_eq_true, decide_eq_true_eq] at hp
        rw [fX6_elder_L14, c_told h.1.2.1.2.1 h.1.2.1.1, gd_ok h.1.2.1.1, h.1.2.1.2.2.2.1, if_neg (nI_ge hc (by omega)), h.2.1.1.2.2.1, has_ok hI.2.2.2.2.2.1.1 (by omega), bP_s, hp.1, if_neg (by decide), c_ahead h.2.1.1 hI (by omega) hp.1, bP_s, if_pos (by rw [hp.2])])
      (fun n c hc hp => by
        have hp : ((μ 14).testBit c && decide (ahead μ c = k)) = false := hp
        rw [fX6_elder_L14, c_told h.1.2.1.2.1 h.1.2.1.1, gd_ok h.1.2.1.1, h.1.2.1.2.2.2.1, if_neg (nI_ge hc (by omega)), h.2.1.1.2.2.1, has_ok hI.2.2.2.2.2.1.1 (by omega), bP_s, nI_1]
        cases hl : (μ 14).testBit c with
        | false => rw [if_pos (by rfl)]
        | true =>
          rw [hl] at hp
          have := ahead_le μ c
          rw [if_neg (by decide), c_ahead h.2.1.1 hI (by omega) hl, bP_s, if_neg (fun e => by rw [nI_eq (by omega) (by omega)] at e; simp [e] at hp)])
      (τ 1) 50000 0 (by omega) (by omega)
    have L2 := loop_find (fun n (q : Int32) => fX7_elder_L18 (nI k) Mz n q) (fun c => nI c) (τ 1) (fun c => (μ 14).testBit c && decide (ahead μ c = k)) (.inl (nI (τ 1))) (fun c => .inr (nI c, Mz))
      (fun n => by
        rw [fX7_elder_L18, show Mz.1 2 ((1 : Int32)).toNatClampNeg = nI (τ 1) from hz.1.2.2.2.2.1, if_pos (nI_le (Nat.le_refl _) (by omega))])
      (fun n c hc hp => by
        have hp : ((μ 14).testBit c && decide (ahead μ c = k)) = true := hp
        simp only [Bool.and_eq_true, decide_eq_true_eq] at hp
        rw [fX7_elder_L18, show Mz.1 2 ((1 : Int32)).toNatClampNeg = nI (τ 1) from hz.1.2.2.2.2.1, if_neg (nI_ge hc (by omega)), m_ahead hT hz.1.2.2.2 hz.2.1.2.1 hI (by omega), b2_s, show Mz.1 6 ((14 : Int32)).toNatClampNeg = nI (μ 14) from hz.2.1.2.1 14 (by decide), mhas_ok hI.2.2.2.2.2.1.1 (by omega), bP_s, hp.1, if_neg (by decide), if_pos (by rw [hp.2])])
      (fun n c hc hp => by
        have hp : ((μ 14).testBit c && decide (ahead μ c = k)) = false := hp
        rw [fX7_elder_L18, show Mz.1 2 ((1 : Int32)).toNatClampNeg = nI (τ 1) from hz.1.2.2.2.2.1, if_neg (nI_ge hc (by omega)), m_ahead hT hz.1.2.2.2 hz.2.1.2.1 hI (by omega), b2_s, show Mz.1 6 ((14 : Int32)).toNatClampNeg = nI (μ 14) from hz.2.1.2.1 14 (by decide), mhas_ok hI.2.2.2.2.2.1.1 (by omega), bP_s, nI_1]
        cases hl : (μ 14).testBit c with
        | false => rw [if_pos (by rfl)]
        | true =>
          rw [hl] at hp
          have := ahead_le μ c
          rw [if_neg (by decide), if_neg (fun e => by rw [nI_eq (by omega) (by omega)] at e; simp [e] at hp)])
      (τ 1) 50000 0 (by omega) (by omega)
    have L1' : fX6_elder_L14 (nI k) Mc 50000 0 = _ := L1
    have L2' : fX7_elder_L18 (nI k) Mz 50000 0 = _ := L2
    rw [L1', L2']
    cases (List.range' 0 (τ 1)).find? (fun c => (μ 14).testBit c && decide (ahead μ c = k)) with
    | none => exact ⟨_, _, rfl, rfl, t, τ, μ, hz⟩
    | some i => exact ⟨_, _, rfl, rfl, t, τ, μ, hz⟩
  · rw [hb, if_pos (show b2i false = 0 by decide)]
    rcases hx with hx | ⟨hx, hy⟩
    · rw [if_pos hx]
      exact ⟨_, _, rfl, rfl, t, τ, μ, hz⟩
    · rw [if_neg hx, if_neg (show ¬ p < (6 : Int32) from Int32.not_lt.mpr hy)]
      exact ⟨_, _, rfl, rfl, t, τ, μ, hz⟩

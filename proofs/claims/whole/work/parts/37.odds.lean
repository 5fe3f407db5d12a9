/-! ===== odds, join ===== -/
theorem c_power {b e : Nat} (he : e ≤ 100) : fX6_power (nI b) (nI e) = some (nI (b ^ e)) := by
  have L : fX6_power_L4 (nI b) (nI e) 50000 1 0 = some (nI (b ^ e), nI e) :=
    loop_0u (fun n (q : Int32 × Int32) => fX6_power_L4 (nI b) (nI e) n q.1 q.2) (fun k => (nI (b ^ k), nI k)) e _ (by omega)
    (fun n => by
      dsimp only
      rw [fX6_power_L4, if_pos (nI_le (Nat.le_refl _) (by omega))])
    (fun n k hk => by
      dsimp only
      rw [fX6_power_L4, if_neg (nI_ge hk (by omega)), pk_mul, nI_1, Nat.pow_succ])
  unfold fX6_power
  rw [L]
  rfl
theorem m_power {b e : Nat} (he : e ≤ 100) : fX7_power (nI b) (nI e) = some (nI (b ^ e)) := by
  have L : fX7_power_L4 (nI b) (nI e) 50000 1 0 = some (nI (b ^ e), nI e) :=
    loop_0u (fun n (q : Int32 × Int32) => fX7_power_L4 (nI b) (nI e) n q.1 q.2) (fun k => (nI (b ^ k), nI k)) e _ (by omega)
    (fun n => by
      dsimp only
      rw [fX7_power_L4, if_pos (nI_le (Nat.le_refl _) (by omega))])
    (fun n k hk => by
      dsimp only
      rw [fX7_power_L4, if_neg (nI_ge hk (by omega)), pk_mul, nI_1, Nat.pow_succ])
  unfold fX7_power
  rw [L]
  rfl
theorem mod_half {k r v : Nat} (hv : v < 2 ^ (k + 1)) (h0 : 0 < r) (hr : r < v) : v % r < 2 ^ k := by
  have h1 : v % r < r := Nat.mod_lt _ h0
  have h2 : v % r + r ≤ v := by
    rw [Nat.mod_eq_sub_mod (Nat.le_of_lt hr)]
    have := Nat.mod_le (v - r) r
    omega
  rw [Nat.pow_succ] at hv
  omega
theorem c_gcd : ∀ (k u v s n : Nat), v < 2 ^ k → k ≤ 20 → u < 2 ^ 30 → s + 2 * k ≤ 40 → 2 * k < n → ∃ a b, fX6_greatestDivisor_L7 n (nI u) (nI v) (nI s) = some (nI (Nat.gcd u v), a, b) := by
  have hz : ∀ (u s n : Nat), 0 < n → ∃ a b, fX6_greatestDivisor_L7 n (nI u) (nI 0) (nI s) = some (nI (Nat.gcd u 0), a, b) := by
    intro u s n hn
    obtain ⟨n', rfl⟩ : ∃ n', n = n' + 1 := ⟨n - 1, by omega⟩
    rw [fX6_greatestDivisor_L7, Nat.gcd_zero_right]
    split
    · exact ⟨_, _, rfl⟩
    · rw [if_pos (show nI 0 = 0 from rfl)]
      exact ⟨_, _, rfl⟩
  intro k
  induction k with
  | zero =>
    intro u v s n hv _ _ _ hn
    have : v = 0 := by simpa using hv
    subst this
    exact hz u s n (by omega)
  | succ k ih =>
    intro u v s n hv hk hu hs hn
    have hp : (2 : Nat) ^ (k + 1) ≤ 2 ^ 20 := Nat.pow_le_pow_right (by decide) hk
    by_cases h0 : v = 0
    · subst h0
      exact hz u s n (by omega)
    · obtain ⟨n', rfl⟩ : ∃ n', n = n' + 1 := ⟨n - 1, by omega⟩
      have hm : u % v < v := Nat.mod_lt _ (by omega)
      rw [fX6_greatestDivisor_L7, if_neg (show ¬ (40 : Int32) ≤ nI s from nI_ge (b := 40) (by omega) (by decide)), if_neg (nI_ne0 (by omega) (by omega)), nz_ok (by omega) (by omega), pk_rem (by omega) (by omega) (by omega), nI_1, show Nat.gcd u v = Nat.gcd v (u % v) by rw [Nat.gcd_comm u v, Nat.gcd_rec, Nat.gcd_comm]]
      by_cases h1 : u % v = 0
      · rw [h1]
        exact hz v (s + 1) n' (by omega)
      · obtain ⟨n'', rfl⟩ : ∃ n'', n' = n'' + 1 := ⟨n' - 1, by omega⟩
        rw [fX6_greatestDivisor_L7, if_neg (show ¬ (40 : Int32) ≤ nI (s + 1) from nI_ge (b := 40) (by omega) (by decide)), if_neg (nI_ne0 (by omega) (by omega)), nz_ok (by omega) (by omega), pk_rem (by omega) (by omega) (by omega), nI_1, show Nat.gcd v (u % v) = Nat.gcd (u % v) (v % (u % v)) by rw [Nat.gcd_comm v, Nat.gcd_rec, Nat.gcd_comm]]
        exact ih _ _ _ _ (mod_half hv (by omega) hm) (by omega) (by omega) (by omega) (by omega)
theorem m_gcd : ∀ (k u v n : Nat), v < 2 ^ k → k ≤ 20 → u < 2 ^ 30 → 2 * k < n → ∃ b, fX7_gcd_L4 n (nI u) (nI v) = some (nI (Nat.gcd u v), b) := by
  have hz : ∀ (u n : Nat), 0 < n → ∃ b, fX7_gcd_L4 n (nI u) (nI 0) = some (nI (Nat.gcd u 0), b) := by
    intro u n hn
    obtain ⟨n', rfl⟩ : ∃ n', n = n' + 1 := ⟨n - 1, by omega⟩
    rw [fX7_gcd_L4, Nat.gcd_zero_right, if_pos (show nI 0 = 0 from rfl)]
    exact ⟨_, rfl⟩
  intro k
  induction k with
  | zero =>
    intro u v n hv _ _ hn
    have : v = 0 := by simpa using hv
    subst this
    exact hz u n (by omega)
  | succ k ih =>
    intro u v n hv hk hu hn
    have hp : (2 : Nat) ^ (k + 1) ≤ 2 ^ 20 := Nat.pow_le_pow_right (by decide) hk
    by_cases h0 : v = 0
    · subst h0
      exact hz u n (by omega)
    · obtain ⟨n', rfl⟩ : ∃ n', n = n' + 1 := ⟨n - 1, by omega⟩
      have hm : u % v < v := Nat.mod_lt _ (by omega)
      rw [fX7_gcd_L4, if_neg (nI_ne0 (by omega) (by omega)), nz_ok (by omega) (by omega), pk_rem (by omega) (by omega) (by omega), show Nat.gcd u v = Nat.gcd v (u % v) by rw [Nat.gcd_comm u v, Nat.gcd_rec, Nat.gcd_comm]]
      by_cases h1 : u % v = 0
      · rw [h1]
        exact hz v n' (by omega)
      · obtain ⟨n'', rfl⟩ : ∃ n'', n' = n'' + 1 := ⟨n' - 1, by omega⟩
        rw [fX7_gcd_L4, if_neg (nI_ne0 (by omega) (by omega)), nz_ok (by omega) (by omega), pk_rem (by omega) (by omega) (by omega), show Nat.gcd v (u % v) = Nat.gcd (u % v) (v % (u % v)) by rw [Nat.gcd_comm v, Nat.gcd_rec, Nat.gcd_comm]]
        exact ih _ _ _ (mod_half hv (by omega) hm) (by omega) (by omega) (by omega)
theorem c_gcd' {u v : Nat} (hu : u < 2 ^ 20) (hv : v < 2 ^ 20) : fX6_greatestDivisor (nI u) (nI v) = some (nI (Nat.gcd u v)) := by
  obtain ⟨a, b, e⟩ := c_gcd 20 u v 0 50000 hv (by decide) (by omega) (by decide) (by decide)
  unfold fX6_greatestDivisor
  rw [show (0 : Int32) = nI 0 from rfl, e]
  rfl
theorem m_gcd' {u v : Nat} (hu : u < 2 ^ 20) (hv : v < 2 ^ 20) : fX7_gcd (nI u) (nI v) = some (nI (Nat.gcd u v)) := by
  obtain ⟨b, e⟩ := m_gcd 20 u v 50000 hv (by decide) (by omega) (by decide)
  unfold fX7_gcd
  rw [e]
  rfl
def rd (τ μ : Nat → Nat) (w r : Nat) : Bool := decide (ageOf μ r < τ 3) && wd τ w (ageOf μ r)
theorem c_roomsToDo {t : Nat} {M : Mm} {τ μ : Nat → Nat} (hT : TI τ) (hc : CTt t M τ) (hm : CM τ 3 M μ) (hI : MI τ μ) {w : Nat} (hw : w < τ 2) : fX6_roomsToDo (nI w) M = some (nI (cn (τ 0) (rd τ μ w))) := by
  have h6 := hT.1
  have L : fX6_roomsToDo_L4 (nI w) M 50000 0 0 = some (nI (cn (τ 0) (rd τ μ w)), nI (τ 0)) :=
    loop_0u (fun n (q : Int32 × Int32) => fX6_roomsToDo_L4 (nI w) M n q.1 q.2) (fun k => (nI (cn k (rd τ μ w)), nI k)) (τ 0) _ (by omega)
    (fun n => by
      dsimp only
      rw [fX6_roomsToDo_L4, c_told hc.2.1 hc.1, gd_ok hc.1, hc.2.2.1, if_pos (nI_le (Nat.le_refl _) (by omega))])
    (fun n k hk => by
      have := ageOf_le hI k
      dsimp only
      rw [fX6_roomsToDo_L4, c_told hc.2.1 hc.1, gd_ok hc.1, hc.2.2.1, if_neg (nI_ge hk (by omega)), c_ageOfRoom hT hm hI (by omega), bP_s, c_does hT hc.2.2 hw (by omega), bP_s, cn, show (decide (ageOf μ k < τ 3) && wd τ w (ageOf μ k)) = rd τ μ w k from rfl]
      rcases Bool.eq_false_or_eq_true (rd τ μ w k) with hp | hp
      · rw [hp, if_neg (by decide), if_pos rfl, nI_1, nI_1]
      · rw [hp, if_pos (by rfl), if_neg (by decide), nI_1]
        rfl)
  unfold fX6_roomsToDo
  rw [L]
  rfl
theorem m_not {M : Mm} {τ μ : Nat → Nat} (hT : TI τ) (hc : MTt M τ) (hm : MMr (M.1 6) μ) (hI : MI τ μ) {w : Nat} (hw : w < τ 2) : fX7_odds_L48 (nI w) M 50000 0 0 = some (nI (cn (τ 0) (fun r => !rd τ μ w r)), nI (τ 0)) := by
  have h6 := hT.1
  have h5 := hT.2.2.1
  have h99 := hT.2.2.2.1.2
  have hb := hT.2.2.2.2 w hw
  have hlo := hc.2.2.2.2 w hw
  exact loop_0u (fun n (q : Int32 × Int32) => fX7_odds_L48 (nI w) M n q.1 q.2) (fun k => (nI (cn k (fun r => !rd τ μ w r)), nI k)) (τ 0) _ (by omega)
    (fun n => by
      dsimp only
      rw [fX7_odds_L48, show M.1 2 ((0 : Int32)).toNatClampNeg = nI (τ 0) from hc.1, if_pos (nI_le (Nat.le_refl _) (by omega))])
    (fun n k hk => by
      have ha := ageOf_le hI k
      dsimp only
      rw [fX7_odds_L48, show M.1 2 ((0 : Int32)).toNatClampNeg = nI (τ 0) from hc.1, if_neg (nI_ge hk (by omega)), m_ageOf hT hc hm hI hk, bP_s, show M.1 2 ((3 : Int32)).toNatClampNeg = nI (τ 3) from hc.2.2.2.1, ix_ok (by omega) (by decide), ix_ok (by omega) (by decide), nI_clamp (by omega), hlo.1, hlo.2, m_in (by omega) (by omega) (by omega), bP_s, show (decide (τ (4 + w) ≤ ageOf μ k) && decide (ageOf μ k ≤ τ (10 + w))) = wd τ w (ageOf μ k) from rfl, cn]
      simp only [ofN, nI_add]
      unfold rd
      by_cases hl : τ 3 ≤ ageOf μ k
      · rw [if_pos (nI_le hl (by omega))]
        simp [show ¬ ageOf μ k < τ 3 by omega]
      · rw [if_neg (nI_ge (by omega) (by omega))]
        rcases Bool.eq_false_or_eq_true (wd τ w (ageOf μ k)) with hp | hp
        · rw [hp, if_neg (by decide)]
          simp [show ageOf μ k < τ 3 by omega]
        · rw [hp, if_pos (by rfl)]
          simp)
theorem cn_not (p : Nat → Bool) : ∀ n, cn n p + cn n (fun k => !p k) = n
  | 0 => rfl
  | n + 1 => by
    have := cn_not p n
    rw [cn, cn]
    cases h : p n <;> simp <;> omega
theorem cn_born {τ μ : Nat → Nat} (hI : MI τ μ) (h6 : τ 1 ≤ 6) : cn 6 (μ 13).testBit ≤ τ 1 := by
  rw [cn_cut 6 h6 (fun k h1 _ => by
    rcases Bool.eq_false_or_eq_true ((μ 13).testBit k) with hp | hp
    · have := hI.2.2.2.2.1.2 k hp
      omega
    · exact hp)]
  exact cn_le _ _
theorem R_odds {Mc Md : Mm} (h : Rel Mc Md) (p q : Int32) : ∃ r Md', fX6_odds p q Mc = some r ∧ fX7_odds p q Md = some (r, Md') ∧ Rel Mc Md' := by
  obtain ⟨t, τ, μ, h⟩ := h
  have hz := h.z
  have hT := h.1.1
  have h6 := hT.2.1.2
  have h60 := hT.1
  have hI := h.2.1.2.2
  have ein : fX7_in q 0 1 = some (b2i (inB q 2)) := m_inB (B := 1) (by decide) q
  have e13 : (wI Md 0 0 0).1 6 ((13 : Int32)).toNatClampNeg = nI (μ 13) := hz.2.1.2.1 13 (by decide)
  have e0 : (wI Md 0 0 0).1 2 ((0 : Int32)).toNatClampNeg = nI (τ 0) := hz.1.2.2.2.1
  have e1 : (wI Md 0 0 0).1 2 ((1 : Int32)).toNatClampNeg = nI (τ 1) := hz.1.2.2.2.2.1
  have hbn := cn_born hI h6
  unfold fX6_odds fX7_odds
  rw [lt_eq, c_isWork hT h.1.2.1, m_isWork hT hz.1.2.2.2, ein, bP_s, bP_s, bP_s, c_told h.1.2.1.2.1 h.1.2.1.1, gd_ok h.1.2.1.1, h.1.2.1.2.2.1, h.1.2.1.2.2.2.1, h.2.1.1.2.1, e13, e0, e1, pc_ok hI.2.2.2.2.1.1, ones_ok hI.2.2.2.2.1.1, bP_s, bP_s]
  generalize wI Md 0 0 0 = Mz at *
  rcases isX_cases (τ 2) (by have := hT.2.2.1; omega) p with ⟨w, hw, rfl, hb⟩ | ⟨hb, hx⟩
  · rw [hb, if_neg (show ¬ b2i true = 0 by decide), if_neg (show ¬ b2i true = 0 by decide), c_roomsToDo hT h.1.2.1 h.2.1.1 hI hw, m_not hT hz.1.2.2.2 hz.2.1.2.1 hI hw, b2_s, pk_sub hbn]
    rcases isX_cases 2 (by decide) q with ⟨k, hk, rfl, hb2⟩ | ⟨hb2, hx⟩
    · have hcn := cn_not (rd τ μ w) (τ 0)
      rw [hb2, if_neg (nI_pos (by omega)), if_pos (show nI k ≤ (1 : Int32) from nI_le (b := 1) (by omega) (by decide)), if_neg (show ¬ b2i true = 0 by decide), c_power (by omega), m_power (by omega), m_power (by omega)]
      simp only [bP_s]
      rw [pk_sub (a := τ 0) (b := cn (τ 0) (rd τ μ w)) (by omega), show τ 0 - cn (τ 0) (rd τ μ w) = cn (τ 0) (fun r => !rd τ μ w r) by omega, c_power (by omega)]
      simp only [bP_s]
      by_cases h0 : τ 0 = 0
      · rw [h0, if_pos (show nI 0 = 0 from rfl), if_pos (show nI 0 = 0 from rfl), bP_s, if_pos (show nI 0 = 0 from rfl), bP_s, show fX7_gcd 0 1 = some (nI (Nat.gcd 0 1)) from m_gcd' (u := 0) (v := 1) (by decide) (by decide), bP_s]
        have : k = 0 ∨ k = 1 := by omega
        rcases this with rfl | rfl
        · exact ⟨_, _, rfl, rfl, t, τ, μ, hz⟩
        · exact ⟨_, _, rfl, rfl, t, τ, μ, hz⟩
      · have hr0 : ¬ nI (τ 0) = 0 := nI_ne0 (by omega) (by omega)
        rw [if_neg hr0, if_neg hr0, bP_s, if_neg hr0, bP_s]
        have hle : cn (τ 0) (fun r => !rd τ μ w r) ^ (τ 1 - cn 6 (μ 13).testBit) ≤ τ 0 ^ (τ 1 - cn 6 (μ 13).testBit) := Nat.pow_le_pow_left (by omega) _
        have hbig : τ 0 ^ (τ 1 - cn 6 (μ 13).testBit) ≤ 6 ^ 6 := Nat.le_trans (Nat.pow_le_pow_left h60 _) (Nat.pow_le_pow_right (by decide) (by omega))
        have hpos : 0 < τ 0 ^ (τ 1 - cn 6 (μ 13).testBit) := Nat.pow_pos (by omega)
        rw [pk_sub hle]
        generalize τ 0 ^ (τ 1 - cn 6 (μ 13).testBit) = all at *
        generalize cn (τ 0) (fun r => !rd τ μ w r) ^ (τ 1 - cn 6 (μ 13).testBit) = no at *
        have hb66 : (6 : Nat) ^ 6 = 46656 := by decide
        have hgl : Nat.gcd (all - no) all ≤ all := Nat.gcd_le_right _ hpos
        have hgp : 0 < Nat.gcd (all - no) all := Nat.gcd_pos_of_pos_right _ hpos
        rw [c_gcd' (by omega) (by omega), m_gcd' (by omega) (by omega), bP_s, bP_s, if_neg (nI_ne0 hgp (by omega)), nz_ok hgp (by omega), nz_ok hgp (by omega), nz_ok hgp (by omega), nz_ok hgp (by omega)]
        have : k = 0 ∨ k = 1 := by omega
        rcases this with rfl | rfl
        · rw [if_pos (show nI 0 = 0 from rfl), if_pos (show nI 0 = 0 from rfl)]
          exact ⟨_, _, rfl, rfl, t, τ, μ, hz⟩
        · rw [if_neg (show ¬ nI 1 = 0 by decide), if_neg (show ¬ nI 1 = 0 by decide)]
          exact ⟨_, _, rfl, rfl, t, τ, μ, hz⟩
    · rw [hb2, if_pos (show b2i false = 0 by decide)]
      rcases hx with hx | ⟨hx, hy⟩
      · rw [if_pos hx]
        exact ⟨_, _, rfl, rfl, t, τ, μ, hz⟩
      · rw [if_neg hx, if_neg (show ¬ q ≤ (1 : Int32) from fun z => absurd ((le_pred (B := 1) (by decide)).mp z) (Int32.not_lt.mpr hy))]
        exact ⟨_, _, rfl, rfl, t, τ, μ, hz⟩
  · rw [hb, if_pos (show b2i false = 0 by decide), if_pos (show b2i false = 0 by decide)]
    exact ⟨_, _, rfl, rfl, t, τ, μ, hz⟩

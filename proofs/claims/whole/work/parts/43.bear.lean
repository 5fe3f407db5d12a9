/-! ===== bears, year ===== -/
theorem loop_inv {σ β : Type} (f : Nat → σ → Option β) (I : Nat → σ → Prop) (B : Nat) (P : β → Prop) (hend : ∀ n s, I B s → ∃ b, f (n + 1) s = some b ∧ P b) (hs : ∀ n k s, k < B → I k s → ∃ s', f (n + 1) s = f n s' ∧ I (k + 1) s') : ∀ (j n k : Nat) (s : σ), k + j = B → j < n → I k s → ∃ b, f n s = some b ∧ P b := by
  intro j
  induction j with
  | zero =>
    intro n k s hk hn hi
    obtain ⟨n', rfl⟩ : ∃ n', n = n' + 1 := ⟨n - 1, by omega⟩
    have : k = B := by omega
    subst this
    exact hend n' s hi
  | succ j ih =>
    intro n k s hk hn hi
    obtain ⟨n', rfl⟩ : ∃ n', n = n' + 1 := ⟨n - 1, by omega⟩
    obtain ⟨s', e, hi'⟩ := hs n' k s (by omega) hi
    rw [e]
    exact ih n' (k + 1) s' (by omega) (by omega) hi'
theorem loop_inv0 {σ β : Type} (f : Nat → σ → Option β) (I : Nat → σ → Prop) (B : Nat) (P : β → Prop) {n : Nat} (hn : B < n) {s : σ} (h0 : I 0 s) (hend : ∀ n s, I B s → ∃ b, f (n + 1) s = some b ∧ P b) (hs : ∀ n k s, k < B → I k s → ∃ s', f (n + 1) s = f n s' ∧ I (k + 1) s') : ∃ b, f n s = some b ∧ P b :=
  loop_inv f I B P hend hs B n 0 s (by omega) hn h0
def uN (μ : Nat → Nat) (k v : Nat) : Nat → Nat := fun i => if i = k then v else μ i
theorem uN_v (μ : Nat → Nat) (k v : Nat) : uN μ k v k = v := if_pos rfl
theorem uN_k (μ : Nat → Nat) (k v : Nat) {i : Nat} (h : i ≠ k) : uN μ k v i = μ i := if_neg h
theorem jm_ext {μ ν : Nat → Nat} (h : ∀ k, k < 6 → μ (7 + k) = ν (7 + k)) {r : Nat} (hr : r < 6) : jm μ r = jm ν r := mk_ext (fun k hk => by rw [h k hk, h r hr])
theorem jm_uN {μ : Nat → Nat} {j v r : Nat} (h : j < 7 ∨ 12 < j) (hr : r < 6) : jm (uN μ j v) r = jm μ r := jm_ext (fun k hk => uN_k _ _ _ (by omega)) hr
theorem CM_age {a : Nat} {M : Mm} {τ μ : Nat → Nat} (h : CM τ a M μ) {c v : Nat} (hc : c < 6) : CM τ a (wI M (a + 3) c (nI v)) (uN μ (15 + c) v) := by
  obtain ⟨h1, h2, h3, h4, h5, h6⟩ := h
  refine ⟨?_, ?_, ?_, fun r hr => ?_, fun r hr => ?_, fun r hr hb => ?_⟩
  · rw [wI_a _ _ _ _ (by omega), uN_k _ _ _ (by omega), h1]
  · rw [wI_a _ _ _ _ (by omega), uN_k _ _ _ (by omega), h2]
  · rw [wI_a _ _ _ _ (by omega), uN_k _ _ _ (by omega), h3]
  · rw [wI_a _ _ _ _ (by omega), uN_k _ _ _ (by omega), h4 r hr]
  · rw [wI_a _ _ _ _ (by omega), h5 r hr, jm_uN (by omega) hr]
  · rw [uN_k _ _ _ (by omega)] at hb
    by_cases e : r = c
    · subst e
      rw [wI_v, uN_v]
    · rw [wI_k _ _ _ _ e, uN_k _ _ _ (by omega), h6 r hr hb]
theorem CM_year {a : Nat} {M : Mm} {τ μ : Nat → Nat} (h : CM τ a M μ) {v : Nat} : CM τ a (wI M a 3 (nI v)) (uN μ 0 v) := by
  obtain ⟨h1, h2, h3, h4, h5, h6⟩ := h
  refine ⟨?_, ?_, ?_, fun r hr => ?_, fun r hr => ?_, fun r hr hb => ?_⟩
  · rw [wI_v, uN_v]
  · rw [wI_k _ _ _ _ (by omega), uN_k _ _ _ (by omega), h2]
  · rw [wI_k _ _ _ _ (by omega), uN_k _ _ _ (by omega), h3]
  · rw [wI_a _ _ _ _ (by omega), uN_k _ _ _ (by omega), h4 r hr]
  · rw [wI_a _ _ _ _ (by omega), h5 r hr, jm_uN (by omega) hr]
  · rw [uN_k _ _ _ (by omega)] at hb
    rw [wI_a _ _ _ _ (by omega), uN_k _ _ _ (by omega), h6 r hr hb]
theorem CM_born {a : Nat} {M : Mm} {τ μ : Nat → Nat} (h : CM τ a M μ) {v : Nat} : CM τ a (wI M a 4 (nI v)) (uN μ 13 v) := by
  obtain ⟨h1, h2, h3, h4, h5, h6⟩ := h
  refine ⟨?_, ?_, ?_, fun r hr => ?_, fun r hr => ?_, fun r hr hb => ?_⟩
  · rw [wI_k _ _ _ _ (by omega), uN_k _ _ _ (by omega), h1]
  · rw [wI_v, uN_v]
  · rw [wI_k _ _ _ _ (by omega), uN_k _ _ _ (by omega), h3]
  · rw [wI_a _ _ _ _ (by omega), uN_k _ _ _ (by omega), h4 r hr]
  · rw [wI_a _ _ _ _ (by omega), h5 r hr, jm_uN (by omega) hr]
  · rw [uN_k _ _ _ (by omega)] at hb
    rw [wI_a _ _ _ _ (by omega), uN_k _ _ _ (by omega), h6 r hr hb]
theorem CM_lives {a : Nat} {M : Mm} {τ μ : Nat → Nat} (h : CM τ a M μ) {v : Nat} (hv : ∀ c, c < 6 → v.testBit c = true → M.1 (a + 3) c = nI (μ (15 + c))) : CM τ a (wI M a 5 (nI v)) (uN μ 14 v) := by
  obtain ⟨h1, h2, h3, h4, h5, h6⟩ := h
  refine ⟨?_, ?_, ?_, fun r hr => ?_, fun r hr => ?_, fun r hr hb => ?_⟩
  · rw [wI_k _ _ _ _ (by omega), uN_k _ _ _ (by omega), h1]
  · rw [wI_k _ _ _ _ (by omega), uN_k _ _ _ (by omega), h2]
  · rw [wI_v, uN_v]
  · rw [wI_a _ _ _ _ (by omega), uN_k _ _ _ (by omega), h4 r hr]
  · rw [wI_a _ _ _ _ (by omega), h5 r hr, jm_uN (by omega) hr]
  · rw [uN_v] at hb
    rw [wI_a _ _ _ _ (by omega), uN_k _ _ _ (by omega), hv r hr hb]
theorem CM_old {a : Nat} {M : Mm} {τ μ : Nat → Nat} (h : CM τ a M μ) {r v : Nat} (hr : r < 6) : CM τ a (wI M (a + 1) r (nI v)) (uN μ (1 + r) v) := by
  obtain ⟨h1, h2, h3, h4, h5, h6⟩ := h
  refine ⟨?_, ?_, ?_, fun q hq => ?_, fun q hq => ?_, fun q hq hb => ?_⟩
  · rw [wI_a _ _ _ _ (by omega), uN_k _ _ _ (by omega), h1]
  · rw [wI_a _ _ _ _ (by omega), uN_k _ _ _ (by omega), h2]
  · rw [wI_a _ _ _ _ (by omega), uN_k _ _ _ (by omega), h3]
  · by_cases e : q = r
    · subst e
      rw [wI_v, uN_v]
    · rw [wI_k _ _ _ _ e, uN_k _ _ _ (by omega), h4 q hq]
  · rw [wI_a _ _ _ _ (by omega), h5 q hq, jm_uN (by omega) hq]
  · rw [uN_k _ _ _ (by omega)] at hb
    rw [wI_a _ _ _ _ (by omega), uN_k _ _ _ (by omega), h6 q hq hb]
theorem CM_ext {a : Nat} {M : Mm} {τ μ ν : Nat → Nat} (h : CM τ a M μ) (e : ∀ k, k < 21 → μ k = ν k) : CM τ a M ν := by
  obtain ⟨h1, h2, h3, h4, h5, h6⟩ := h
  exact ⟨by rw [h1, e 0 (by omega)], by rw [h2, e 13 (by omega)], by rw [h3, e 14 (by omega)], fun r hr => by rw [h4 r hr, e _ (by omega)], fun r hr => by rw [h5 r hr, jm_ext (fun k hk => e _ (by omega)) hr], fun r hr hb => by rw [← e 14 (by omega)] at hb; rw [h6 r hr hb, e _ (by omega)]⟩
theorem MM_w {M : Mm} {μ : Nat → Nat} (h : MMr (M.1 6) μ) {k v : Nat} : MMr ((wI M 6 k (nI v)).1 6) (uN μ k v) := by
  intro i hi
  by_cases e : i = k
  · subst e
    rw [wI_v, uN_v]
  · rw [wI_k _ _ _ _ e, uN_k _ _ _ e, h i hi]
theorem MM_ext {s : Nat → Int32} {μ ν : Nat → Nat} (h : MMr s μ) (e : ∀ k, k < 21 → μ k = ν k) : MMr s ν := fun k hk => by rw [h k hk, e k hk]
theorem RelT.now {t : Nat} {τ μ ν : Nat → Nat} {Mc Md Mc' Md' : Mm} (h : RelT t τ μ Mc Md) (k1 : ∀ j k, (j < 3 ∨ 6 < j) → Mc'.1 j k = Mc.1 j k) (k2 : ∀ j k, j ≠ 6 → Md'.1 j k = Md.1 j k) (hn : RN Mc' Md' τ ν) (e1 : Mc'.2 = Mc.2) (e2 : Md'.2 = Md.2) : RelT t τ ν Mc' Md' := by
  have ht := isT_2 h.1.2.1.1
  exact ⟨RT_cong h.1 (fun k => k1 _ _ (by omega)) (fun j k q1 q2 => k1 _ _ (by omega)) (fun k _ => k2 _ _ (by omega)) (fun k _ => k2 _ _ (by omega)) (fun k _ => k2 _ _ (by omega)), hn, RX_cong h.2.2.1 (k1 _ _ (by omega)) (fun k => k1 _ _ (by omega)) (k2 _ _ (by omega)) (fun k => k2 _ _ (by omega)), RU_cong h.2.2.2.1 (k1 _ _ (by omega)) (k1 _ _ (by omega)) (k2 _ _ (by omega)) (fun j k q1 q2 => k1 _ _ (by omega)) (fun k => k2 _ _ (by omega)), RI_cong h.2.2.2.2.1 (fun k => k1 _ _ (by omega)) (fun k => k2 _ _ (by omega)) (fun j k q1 q2 => k1 _ _ (by omega)) (fun k => k2 _ _ (by omega)), RS_cong h.2.2.2.2.2.1 (k1 _ _ (by omega)) (k2 _ _ (by omega)) (fun k => k1 _ _ (by omega)) (fun k => k1 _ _ (by omega)) (fun k => k2 _ _ (by omega)) (fun k => k2 _ _ (by omega)), by rw [e1, e2, h.2.2.2.2.2.2]⟩
def bearN (τ μ : Nat → Nat) (c v : Nat) : Nat → Nat := fun i => if i = 13 then μ 13 ||| 2 ^ c else if i = 14 then (if τ 3 ≤ v then μ 14 else μ 14 ||| 2 ^ c) else if i = 15 + c then v else μ i
theorem orb (a c k : Nat) : (a ||| 2 ^ c).testBit k = (a.testBit k || decide (c = k)) := by
  rw [Nat.testBit_or, Nat.testBit_two_pow]
theorem bear_MI {τ μ : Nat → Nat} {c v : Nat} (h : MI τ μ) (hc : c < τ 1) (hT : TI τ) (hv : v ≤ 300) (hnb : (μ 13).testBit c = false) : MI τ (bearN τ μ c v) := by
  obtain ⟨h1, h2, h3, h4, ⟨h5, h6⟩, ⟨h7, h8⟩, h9⟩ := h
  have hc6 : c < 6 := by have := hT.2.1.2; omega
  have e : ∀ i, i < 13 → bearN τ μ c v i = μ i := fun i hi => by
    unfold bearN
    rw [if_neg (by omega), if_neg (by omega), if_neg (by omega)]
  have e13 : bearN τ μ c v 13 = μ 13 ||| 2 ^ c := rfl
  have e14 : bearN τ μ c v 14 = if τ 3 ≤ v then μ 14 else μ 14 ||| 2 ^ c := rfl
  have e15 : ∀ k, bearN τ μ c v (15 + k) = if k = c then v else μ (15 + k) := fun k => by
    unfold bearN
    rw [if_neg (by omega), if_neg (by omega)]
    by_cases q : k = c
    · rw [if_pos (by omega), if_pos q]
    · rw [if_neg (by omega), if_neg q]
  have h5c := pow2_lt hc6
  refine ⟨by rw [e 0 (by omega)]; exact h1, fun r hr => by rw [e _ (by omega), e 0 (by omega)]; exact h2 r hr, fun r hr => ?_, fun r q1 q2 => by rw [e _ (by omega)]; exact h4 r q1 q2, ⟨by rw [e13]; exact or_lt h5 h5c, fun k hk => ?_⟩, ⟨?_, fun k hk => ?_⟩, fun k hk => ?_⟩
  · have := h3 r hr
    rw [e (7 + r) (by omega), e _ (by omega)]
    exact this
  · rw [e13, orb] at hk
    rcases Bool.or_eq_true_iff.mp hk with q | q
    · exact h6 k q
    · have := of_decide_eq_true q
      omega
  · rw [e14]
    split
    · exact h7
    · exact or_lt h7 h5c
  · rw [e14] at hk
    rw [e13, orb, e15]
    by_cases q : τ 3 ≤ v
    · rw [if_pos q] at hk
      have := h8 k hk
      refine ⟨by rw [this.1]; rfl, ?_⟩
      by_cases e : k = c
      · rw [e, hnb] at this
        exact absurd this.1 (by decide)
      · rw [if_neg e]
        exact this.2
    · rw [if_neg q, orb] at hk
      by_cases e : k = c
      · rw [if_pos e]
        refine ⟨by simp [e], by omega⟩
      · rw [if_neg e]
        rcases Bool.or_eq_true_iff.mp hk with q2 | q2
        · have := h8 k q2
          exact ⟨by rw [this.1]; rfl, this.2⟩
        · exact absurd (of_decide_eq_true q2).symm e
  · rw [e15]
    split
    · exact hv
    · exact h9 k hk
theorem c13 : Int32.toNatClampNeg 13 = 13 := by decide
theorem c14 : Int32.toNatClampNeg 14 = 14 := by decide
theorem R_bears {Mc Md : Mm} (h : Rel Mc Md) (p q : Int32) : ∃ r Mc' Md', fX6_bears p q Mc = some (r, Mc') ∧ fX7_bears p q Md = some (r, Md') ∧ Rel Mc' Md' := by
  obtain ⟨t, τ, μ, h⟩ := h
  have hz := h.z
  have hT := h.1.1
  have h6 := hT.2.1.2
  have h60 := hT.1
  have h3 := hT.2.2.2.1
  have hI := h.2.1.2.2
  have e13 : (wI Md 0 0 0).1 6 ((13 : Int32)).toNatClampNeg = nI (μ 13) := hz.2.1.2.1 13 (by decide)
  unfold fX6_bears fX7_bears
  rw [lt_eq, c_isMother hT h.1.2.1, m_isChild hT hz.1.2.2.2, c_isRoom hT h.1.2.1, m_isRoom hT hz.1.2.2.2, bP_s, bP_s, bP_s, bP_s, e13, h.2.1.1.2.1]
  generalize wI Md 0 0 0 = Mz at *
  rcases isX_cases (τ 1) (by omega) p with ⟨c, hc, rfl, hb⟩ | ⟨hb, hx⟩
  · rw [hb, if_neg (show ¬ b2i true = 0 by decide), if_neg (show ¬ b2i true = 0 by decide)]
    rcases isX_cases (τ 0) (by omega) q with ⟨r, hr, rfl, hb2⟩ | ⟨hb2, hx⟩
    · have hc6 : c < 6 := by omega
      rw [hb2, if_neg (show ¬ b2i true = 0 by decide), if_neg (show ¬ b2i true = 0 by decide), has_ok hI.2.2.2.2.1.1 hc6, mhas_ok hI.2.2.2.2.1.1 hc6, bP_s, bP_s]
      rcases Bool.eq_false_or_eq_true ((μ 13).testBit c) with hp | hp
      · rw [hp, if_neg (show ¬ b2i true = 0 by decide), if_neg (show ¬ b2i true = 0 by decide)]
        exact ⟨_, _, _, rfl, rfl, t, τ, μ, hz⟩
      · obtain ⟨Nc, Nd, n1, n2, hn⟩ := R_rem hz
        have hv := ageOf_le hI r
        generalize hvv : ageOf μ r = v at hv
        have f13 : Nd.1 6 ((13 : Int32)).toNatClampNeg = nI (μ 13) := hn.2.1.2.1 13 (by decide)
        have f14 : Nd.1 6 14 = nI (μ 14) := hn.2.1.2.1 14 (by decide)
        have f3 : Nd.1 2 ((3 : Int32)).toNatClampNeg = nI (τ 3) := hn.1.2.2.2.2.2.2.1
        have hor13 : nI (μ 13) ||| nI (2 ^ c) = nI (μ 13 ||| 2 ^ c) := or_ok hI.2.2.2.2.1.1 (pow2_lt hc6)
        have hor14 : nI (μ 14) ||| nI (2 ^ c) = nI (μ 14 ||| 2 ^ c) := or_ok hI.2.2.2.2.2.1.1 (pow2_lt hc6)
        have hor0 : nI (μ 14) ||| nI 0 = nI (μ 14) := by rw [or_ok hI.2.2.2.2.2.1.1 (by decide), Nat.or_zero]
        have hMI := bear_MI hI hc hT (v := v) (by omega) hp
        rw [hp, if_pos (show b2i false = 0 by decide), if_pos (show b2i false = 0 by decide), n1, n2, bP_s, bP_s, c_told hn.1.2.1.2.1 hn.1.2.1.1, gd_ok hn.1.2.1.1, hn.1.2.1.2.2.2.2.2.1, m_ageOf hT hn.1.2.2.2 hn.2.1.2.1 hI hr, bP_s, hvv, lt_eq, f13, s_bit 0 c (by omega), hor13]
        unfold fX1_bear
        rw [c_ageOfRoom hT hn.2.1.1 hI (by omega), bP_s, hvv, bit_ok (by omega), ix_ok (by omega) (by decide), nI_clamp (by omega), lt_eq, bP_s, wI_a _ _ _ _ (show 3 ≠ 3 + 3 by decide), hn.2.1.1.2.1, hor13, lt_eq, ix_ok (by omega) (by decide), wI_a _ _ _ _ (show 3 + 3 ≠ 3 by decide), wI_v, bP_s, ix_ok (by omega) (by decide), wI_a _ _ _ _ (show 2 ≠ 6 by decide), f3, c13, c14, wI_k _ _ _ _ (show 14 ≠ 13 by decide), f14]
        have g1 : (wI (wI Nc (3 + 3) c (nI v)) 3 4 (nI (μ 13 ||| 2 ^ c))).1 3 5 = nI (μ 14) := by
          rw [wI_k _ _ _ _ (by decide), wI_a _ _ _ _ (by decide), hn.2.1.1.2.2.1]
        have cm := CM_born (CM_age hn.2.1.1 (c := c) (v := v) hc6) (v := μ 13 ||| 2 ^ c)
        have k1 : ∀ j k, (j < 3 ∨ 6 < j) → (wI (wI Nc (3 + 3) c (nI v)) 3 4 (nI (μ 13 ||| 2 ^ c))).1 j k = Nc.1 j k := fun j k q => by rw [wI_a _ _ _ _ (by omega), wI_a _ _ _ _ (by omega)]
        by_cases hl : τ 3 ≤ v
        · have hl' : nI (τ 3) ≤ nI v := nI_le hl (by omega)
          rw [if_pos hl', if_pos hl', b2_s, bP_s, lt_eq, show ((0 : Int32)) = nI 0 from rfl, hor0, show ((15 : Int32)) = nI 15 from rfl, nI_add, ix_ok (by omega) (by decide), nI_clamp (by omega), lt_eq]
          refine ⟨_, _, _, rfl, rfl, t, τ, bearN τ μ c v, hn.now k1 (fun j k q => by rw [wI_a _ _ _ _ q, wI_a _ _ _ _ q, wI_a _ _ _ _ q]) ⟨CM_ext cm ?_, MM_ext (MM_w (MM_w (MM_w hn.2.1.2.1))) ?_, hMI⟩ rfl rfl⟩
          · intro k hk
            simp only [uN, bearN, if_pos hl]
            repeat' split
            all_goals first | rfl | omega | (subst_vars; first | rfl | omega)
          · intro k hk
            simp only [uN, bearN, if_pos hl]
            repeat' split
            all_goals first | rfl | omega | (subst_vars; first | rfl | omega)
        · have hl' : ¬ nI (τ 3) ≤ nI v := nI_ge (by omega) (by omega)
          rw [if_neg hl', if_neg hl', lt_eq, g1, hor14, ix_ok (by omega) (by decide), wI_a _ _ _ _ (show 3 + 3 ≠ 3 by decide), wI_a _ _ _ _ (show 3 + 3 ≠ 3 by decide), wI_v, b2_s, bP_s, lt_eq, hor14, show ((15 : Int32)) = nI 15 from rfl, nI_add, ix_ok (by omega) (by decide), nI_clamp (by omega), lt_eq]
          have cl := CM_lives cm (v := μ 14 ||| 2 ^ c) (fun k hk hb => by
            rw [wI_a _ _ _ _ (by omega)]
            by_cases e : k = c
            · subst e
              rw [wI_v, uN_k _ _ _ (by omega), uN_v]
            · rw [orb] at hb
              have hb' : (μ 14).testBit k = true := by simpa [show ¬ c = k from fun q => e q.symm] using hb
              rw [wI_k _ _ _ _ e, uN_k _ _ _ (by omega), uN_k _ _ _ (by omega), hn.2.1.1.2.2.2.2.2 k hk hb'])
          refine ⟨_, _, _, rfl, rfl, t, τ, bearN τ μ c v, hn.now (fun j k q => by rw [wI_a _ _ _ _ (by omega), k1 j k q]) (fun j k q => by rw [wI_a _ _ _ _ q, wI_a _ _ _ _ q, wI_a _ _ _ _ q]) ⟨CM_ext cl ?_, MM_ext (MM_w (MM_w (MM_w hn.2.1.2.1))) ?_, hMI⟩ rfl rfl⟩
          · intro k hk
            simp only [uN, bearN, if_neg hl]
            repeat' split
            all_goals first | rfl | omega | (subst_vars; first | rfl | omega)
          · intro k hk
            simp only [uN, bearN, if_neg hl]
            repeat' split
            all_goals first | rfl | omega | (subst_vars; first | rfl | omega)
    · rw [hb2, if_pos (show b2i false = 0 by decide), if_pos (show b2i false = 0 by decide)]
      exact ⟨_, _, _, rfl, rfl, t, τ, μ, hz⟩
  · rw [hb, if_pos (show b2i false = 0 by decide), if_pos (show b2i false = 0 by decide)]
    exact ⟨_, _, _, rfl, rfl, t, τ, μ, hz⟩

/-! ===== each kind of item, both ways ===== -/
theorem ct4 : Int32.toNatClampNeg 4 = 4 := by decide
theorem ct5 : Int32.toNatClampNeg 5 = 5 := by decide
theorem ct6 : Int32.toNatClampNeg 6 = 6 := by decide
theorem ct7 : Int32.toNatClampNeg 7 = 7 := by decide
def ItOut (t b n : Nat) (x : Nat → Nat) (q it : Nat) (Mc Md : Mm) (rc : Option (Int32 × Mm)) (rm : Option Mm) : Prop :=
  (∃ (Mc' Md' : Mm) (q2 : Nat) (τ' ω' : Nat → Nat) (fm' fl' : Bool), rc = some (1, Mc') ∧ rm = some Md' ∧ q ≤ q2 ∧ q2 ≤ n ∧ OKt τ' ω' ∧ keepC t Mc Mc' ∧ keepM Md Md' ∧ TC Mc' n x q2 ∧ TM Md' n x q2 ∧ Md'.1 0 8 = -1 ∧ DRc b τ' ω' fm' fl' it Mc' ∧ DRm τ' ω' fm' fl' Md') ∨
  (∃ (Mc' Md' : Mm) (s : Nat), rc = some (0, Mc') ∧ rm = some Md' ∧ s ≤ n ∧ keepC t Mc Mc' ∧ keepM Md Md' ∧ Mc'.1 1 3 = nI s ∧ Md'.1 0 8 = nI s)
theorem OKt_A {τ ω : Nat → Nat} (h : OKt τ ω) (hr : τ 0 < 6) {v : Nat} (hv : v ≤ 99) : OKt (uN τ 0 (τ 0 + 1)) (uN ω (τ 0) v) := by
  obtain ⟨⟨h1, h2, h3, h4, h5⟩, h6⟩ := h
  refine ⟨⟨by rw [uN_v]; omega, by rw [uN_k _ _ _ (by decide)]; exact h2, by rw [uN_k _ _ _ (by decide)]; exact h3, by rw [uN_k _ _ _ (by decide)]; exact h4, fun w hw => ?_⟩, fun r hr' => ?_⟩
  · rw [uN_k _ _ _ (by decide)] at hw
    rw [uN_k _ _ _ (by omega), uN_k _ _ _ (by omega)]
    exact h5 w hw
  · rw [uN_v] at hr'
    by_cases e : r = τ 0
    · rw [e, uN_v]
      exact hv
    · rw [uN_k _ _ _ e]
      exact h6 r (by omega)
theorem OKt_M {τ ω : Nat → Nat} (h : OKt τ ω) {v : Nat} (hv : 1 ≤ v ∧ v ≤ 6) : OKt (uN τ 1 v) ω := by
  obtain ⟨⟨h1, h2, h3, h4, h5⟩, h6⟩ := h
  refine ⟨⟨by rw [uN_k _ _ _ (by decide)]; exact h1, by rw [uN_v]; exact hv, by rw [uN_k _ _ _ (by decide)]; exact h3, by rw [uN_k _ _ _ (by decide)]; exact h4, fun w hw => ?_⟩, fun r hr' => ?_⟩
  · rw [uN_k _ _ _ (by decide)] at hw
    rw [uN_k _ _ _ (by omega), uN_k _ _ _ (by omega)]
    exact h5 w hw
  · rw [uN_k _ _ _ (by decide)] at hr'
    exact h6 r hr'
theorem OKt_L {τ ω : Nat → Nat} (h : OKt τ ω) {v : Nat} (hv : 10 ≤ v ∧ v ≤ 99) : OKt (uN τ 3 v) ω := by
  obtain ⟨⟨h1, h2, h3, h4, h5⟩, h6⟩ := h
  refine ⟨⟨by rw [uN_k _ _ _ (by decide)]; exact h1, by rw [uN_k _ _ _ (by decide)]; exact h2, by rw [uN_k _ _ _ (by decide)]; exact h3, by rw [uN_v]; exact hv, fun w hw => ?_⟩, fun r hr' => ?_⟩
  · rw [uN_k _ _ _ (by decide)] at hw
    rw [uN_k _ _ _ (by omega), uN_k _ _ _ (by omega)]
    exact h5 w hw
  · rw [uN_k _ _ _ (by decide)] at hr'
    exact h6 r hr'
def wkN (τ : Nat → Nat) (lo hi : Nat) : Nat → Nat := uN (uN (uN τ (4 + τ 2) lo) (10 + τ 2) hi) 2 (τ 2 + 1)
theorem wkN_o (τ : Nat → Nat) (lo hi : Nat) {k : Nat} (h : k ≠ 2 ∧ k ≠ 4 + τ 2 ∧ k ≠ 10 + τ 2) : wkN τ lo hi k = τ k := by
  unfold wkN
  rw [uN_k _ _ _ h.1, uN_k _ _ _ h.2.2, uN_k _ _ _ h.2.1]
theorem wkN_2 (τ : Nat → Nat) (lo hi : Nat) : wkN τ lo hi 2 = τ 2 + 1 := uN_v _ _ _
theorem wkN_l (τ : Nat → Nat) (lo hi : Nat) (h : τ 2 < 5) : wkN τ lo hi (4 + τ 2) = lo := by
  unfold wkN
  rw [uN_k _ _ _ (by omega), uN_k _ _ _ (by omega), uN_v]
theorem wkN_h (τ : Nat → Nat) (lo hi : Nat) (h : τ 2 < 5) : wkN τ lo hi (10 + τ 2) = hi := by
  unfold wkN
  rw [uN_k _ _ _ (by omega), uN_v]
theorem OKt_W {τ ω : Nat → Nat} (h : OKt τ ω) (hw : τ 2 < 5) {lo hi : Nat} (hl : lo ≤ 99) (hh : hi ≤ 99) : OKt (wkN τ lo hi) ω := by
  obtain ⟨⟨h1, h2, h3, h4, h5⟩, h6⟩ := h
  refine ⟨⟨by rw [wkN_o _ _ _ (by omega)]; exact h1, by rw [wkN_o _ _ _ (by omega)]; exact h2, by rw [wkN_2]; omega, by rw [wkN_o _ _ _ (by omega)]; exact h4, fun w hw' => ?_⟩, fun r hr' => ?_⟩
  · rw [wkN_2] at hw'
    by_cases e : w = τ 2
    · rw [e, wkN_l _ _ _ hw, wkN_h _ _ _ hw]
      exact ⟨hl, hh⟩
    · rw [wkN_o _ _ _ (by omega), wkN_o _ _ _ (by omega)]
      exact h5 w (by omega)
  · rw [wkN_o _ _ _ (by omega)] at hr'
    exact h6 r hr'
section IT2
variable {n t b q it : Nat} {x τ ω : Nat → Nat} {fm fl : Bool} {Mc Md : Mm}
theorem it_A (hn : n ≤ 120) (hx : ∀ j, j < n → x j ≤ 255) (ht : t = 64 ∨ t = 68) (hb : b = 132 - t) (hq : q ≤ n) (h : TC Mc n x q) (d : DRc b τ ω fm fl it Mc) (g : TM Md n x q) (h8 : Md.1 0 8 = -1) (e : DRm τ ω fm fl Md) (ok : OKt τ ω) (hr : τ 0 < 6) : ItOut t b n x q it Mc Md (fX4_readsRoom b Mc) (fX7_readsItem (nI 97) Md) := by
  obtain ⟨M1, a1, a2, a3, a4, a5⟩ := c_number hn hx hq h (lo := 0) (hi := 99) (by decide) (by decide)
  obtain ⟨m1, m2⟩ := m_number hn hx hq g h8 (lo := 0) (hi := 99) (by decide) (by decide)
  have d' := a2.D (by omega) d
  have hE := tE_le x hq
  have hS := tS_le x hq
  have hic : ∀ k, IC t (b + 1) k ∧ IC t b k := fun k => ⟨by unfold IC; omega, by unfold IC; omega⟩
  have him : ∀ k, IM 3 k ∧ IM 2 4 ∧ IM 0 8 := fun k => ⟨by unfold IM; omega, by unfold IM; omega, by unfold IM; omega⟩
  unfold fX4_readsRoom fX7_readsItem
  rw [d.2.1, if_neg (show ¬ (6 : Int32) ≤ nI (τ 0) from nI_ge (b := 6) hr (by decide)), show (0 : Int32) = nI 0 from rfl, show (99 : Int32) = nI 99 from rfl, a1, b2_s, if_pos (show nI 97 = 97 from rfl), ct4, e.1, nI_clamp (by omega)]
  rcases Bool.eq_false_or_eq_true (okN n x q 0 99) with o | o
  · obtain ⟨o1, o2, o3⟩ := okN_t o
    obtain ⟨D1, n1, n2, n3⟩ := m1 o
    have e' := n2.D e
    rw [o, if_neg (show ¬ b2i true = nI 0 by decide), d'.2.1, ix_ok hr (by decide), nI_clamp (by omega), a5 o, lt_eq, wI_o _ _ _ _ (by omega), d'.2.1, nI_1, lt_eq, n1, b2_s, ix_ok hr (by decide), lt_eq, wI_o _ _ _ _ (by omega), e'.1, nI_1, lt_eq]
    left
    obtain ⟨d1, d2, d3, d4, d5, d6, d7, d8, d9⟩ := d'
    obtain ⟨e1, e2, e3, e4, e5, e6, e7⟩ := e'
    refine ⟨_, _, tE n x q, uN τ 0 (τ 0 + 1), uN ω (τ 0) (tK n x q).2, fm, fl, rfl, rfl, by omega, hE.2.1, OKt_A ok hr o3, (a2.K.w (hic _).1).w (hic _).2, (n2.K.w (him _).1).w (him 0).2.1, (a3.w (by omega)).w (by omega), (n3.w (by omega)).w (by omega), ?_, ⟨?_, ?_, ?_, ?_, ?_, fun r hr' => ?_, fun w hw => ?_, ?_, ?_⟩, ⟨?_, ?_, ?_, ?_, fun r hr' => ?_, fun w hw => ?_, ?_⟩⟩
    · rw [wI_o _ _ _ _ (by omega), wI_o _ _ _ _ (by omega), n2.2 _ _ (by omega), h8]
    · rw [wI_o _ _ _ _ (by omega), wI_o _ _ _ _ (by omega), d1]
    · rw [wI_v, uN_v]
    · rw [wI_o _ _ _ _ (by omega), wI_o _ _ _ _ (by omega), uN_k _ _ _ (by decide), d3]
    · rw [wI_o _ _ _ _ (by omega), wI_o _ _ _ _ (by omega), uN_k _ _ _ (by decide), d4]
    · rw [wI_o _ _ _ _ (by omega), wI_o _ _ _ _ (by omega), uN_k _ _ _ (by decide), d5]
    · rw [uN_v] at hr'
      rw [wI_o _ _ _ _ (by omega)]
      by_cases z : r = τ 0
      · rw [z, wI_v, uN_v]
      · rw [wI_k _ _ _ _ z, uN_k _ _ _ z, d6 r (by omega)]
    · rw [uN_k _ _ _ (by decide)] at hw
      rw [wI_o _ _ _ _ (by omega), wI_o _ _ _ _ (by omega), wI_o _ _ _ _ (by omega), wI_o _ _ _ _ (by omega), uN_k _ _ _ (by omega), uN_k _ _ _ (by omega)]
      exact d7 w hw
    · rw [wI_o _ _ _ _ (by omega), wI_o _ _ _ _ (by omega), d8]
    · rw [wI_o _ _ _ _ (by omega), wI_o _ _ _ _ (by omega), d9]
    · rw [wI_v, uN_v]
    · rw [wI_o _ _ _ _ (by omega), wI_o _ _ _ _ (by omega), uN_k _ _ _ (by decide), e2]
    · rw [wI_o _ _ _ _ (by omega), wI_o _ _ _ _ (by omega), uN_k _ _ _ (by decide), e3]
    · rw [wI_o _ _ _ _ (by omega), wI_o _ _ _ _ (by omega), uN_k _ _ _ (by decide), e4]
    · rw [uN_v] at hr'
      rw [wI_o _ _ _ _ (by omega)]
      by_cases z : r = τ 0
      · rw [z, wI_v, uN_v]
      · rw [wI_k _ _ _ _ z, uN_k _ _ _ z, e5 r (by omega)]
    · rw [uN_k _ _ _ (by decide)] at hw
      rw [wI_o _ _ _ _ (by omega), wI_o _ _ _ _ (by omega), wI_o _ _ _ _ (by omega), wI_o _ _ _ _ (by omega), uN_k _ _ _ (by omega), uN_k _ _ _ (by omega)]
      exact e6 w hw
    · rw [wI_o _ _ _ _ (by omega), wI_o _ _ _ _ (by omega), e7]
  · have n1 := m2 o
    rw [o, if_pos (show b2i false = nI 0 by decide), n1, b2_s, ix_ok hr (by decide), lt_eq, lt_eq]
    right
    refine ⟨_, _, tS n x q, rfl, rfl, hS.2, a2.K, (((keepM.r Md).w (him 0).2.2).w (him _).1).w (him 0).2.1, a4, ?_⟩
    rw [wI_o _ _ _ _ (by omega), wI_o _ _ _ _ (by omega), wI_v]
theorem it_M (hn : n ≤ 120) (hx : ∀ j, j < n → x j ≤ 255) (ht : t = 64 ∨ t = 68) (hb : b = 132 - t) (hq : q ≤ n) (h : TC Mc n x q) (d : DRc b τ ω fm fl it Mc) (g : TM Md n x q) (h8 : Md.1 0 8 = -1) (e : DRm τ ω fm fl Md) (ok : OKt τ ω) (hf : fm = false) : ItOut t b n x q it Mc Md (fX4_readsMothers b Mc) (fX7_readsItem (nI 109) Md) := by
  obtain ⟨M1, a1, a2, a3, a4, a5⟩ := c_number hn hx hq h (lo := 1) (hi := 6) (by decide) (by decide)
  obtain ⟨m1, m2⟩ := m_number hn hx hq g h8 (lo := 1) (hi := 6) (by decide) (by decide)
  have d' := a2.D (by omega) d
  have hE := tE_le x hq
  have hS := tS_le x hq
  have hic : IC t b 5 ∧ IC t 1 6 := ⟨by unfold IC; omega, by unfold IC; omega⟩
  have him : IM 2 5 ∧ IM 0 9 ∧ IM 0 8 := ⟨by unfold IM; omega, by unfold IM; omega, by unfold IM; omega⟩
  subst hf
  unfold fX4_readsMothers fX7_readsItem
  rw [d.2.2.2.2.2.2.2.1, if_pos (show b2i false = 0 by decide), if_neg (show ¬ nI 109 = 97 by decide), if_neg (show ¬ nI 109 = 119 by decide), if_pos (show nI 109 = 109 from rfl), show (1 : Int32) = nI 1 from rfl, show (6 : Int32) = nI 6 from rfl, a1, b2_s, ct5]
  rcases Bool.eq_false_or_eq_true (okN n x q 1 6) with o | o
  · obtain ⟨o1, o2, o3⟩ := okN_t o
    obtain ⟨D1, n1, n2, n3⟩ := m1 o
    have e' := n2.D e
    rw [o, if_neg (show ¬ b2i true = 0 by decide), a5 o, lt_eq, lt_eq, n1, b2_s, lt_eq, wI_o _ _ _ _ (by omega), e'.2.2.2.2.2.2, lt_eq]
    left
    obtain ⟨d1, d2, d3, d4, d5, d6, d7, d8, d9⟩ := d'
    obtain ⟨e1, e2, e3, e4, e5, e6, e7⟩ := e'
    refine ⟨_, _, tE n x q, uN τ 1 (tK n x q).2, ω, true, fl, rfl, rfl, by omega, hE.2.1, OKt_M ok ⟨o2, o3⟩, (a2.K.w hic.1).w hic.2, (n2.K.w him.1).w him.2.1, (a3.w (by omega)).w (by omega), (n3.w (by omega)).w (by omega), ?_, ⟨?_, ?_, ?_, ?_, ?_, fun r hr' => ?_, fun w hw => ?_, ?_, ?_⟩, ⟨?_, ?_, ?_, ?_, fun r hr' => ?_, fun w hw => ?_, ?_⟩⟩
    · rw [wI_o _ _ _ _ (by omega), wI_o _ _ _ _ (by omega), n2.2 _ _ (by omega), h8]
    · rw [wI_o _ _ _ _ (by omega), wI_o _ _ _ _ (by omega), d1]
    · rw [wI_o _ _ _ _ (by omega), wI_o _ _ _ _ (by omega), uN_k _ _ _ (by decide), d2]
    · rw [wI_o _ _ _ _ (by omega), wI_v, uN_v]
    · rw [wI_o _ _ _ _ (by omega), wI_o _ _ _ _ (by omega), uN_k _ _ _ (by decide), d4]
    · rw [wI_o _ _ _ _ (by omega), wI_o _ _ _ _ (by omega), uN_k _ _ _ (by decide), d5]
    · rw [uN_k _ _ _ (by decide)] at hr'
      rw [wI_o _ _ _ _ (by omega), wI_o _ _ _ _ (by omega), d6 r (by omega)]
    · rw [uN_k _ _ _ (by decide)] at hw
      rw [wI_o _ _ _ _ (by omega), wI_o _ _ _ _ (by omega), wI_o _ _ _ _ (by omega), wI_o _ _ _ _ (by omega), uN_k _ _ _ (by omega), uN_k _ _ _ (by omega)]
      exact d7 w hw
    · rw [wI_v]
      rfl
    · rw [wI_o _ _ _ _ (by omega), wI_o _ _ _ _ (by omega), d9]
    · rw [wI_o _ _ _ _ (by omega), wI_o _ _ _ _ (by omega), uN_k _ _ _ (by decide), e1]
    · rw [wI_o _ _ _ _ (by omega), wI_v, uN_v]
    · rw [wI_o _ _ _ _ (by omega), wI_o _ _ _ _ (by omega), uN_k _ _ _ (by decide), e3]
    · rw [wI_o _ _ _ _ (by omega), wI_o _ _ _ _ (by omega), uN_k _ _ _ (by decide), e4]
    · rw [uN_k _ _ _ (by decide)] at hr'
      rw [wI_o _ _ _ _ (by omega), wI_o _ _ _ _ (by omega), e5 r (by omega)]
    · rw [uN_k _ _ _ (by decide)] at hw
      rw [wI_o _ _ _ _ (by omega), wI_o _ _ _ _ (by omega), wI_o _ _ _ _ (by omega), wI_o _ _ _ _ (by omega), uN_k _ _ _ (by omega), uN_k _ _ _ (by omega)]
      exact e6 w hw
    · rw [wI_v]
      cases fl <;> rfl
  · have n1 := m2 o
    rw [o, if_pos (show b2i false = 0 by decide), n1, b2_s, lt_eq, lt_eq]
    right
    refine ⟨_, _, tS n x q, rfl, rfl, hS.2, a2.K, (((keepM.r Md).w him.2.2).w him.1).w him.2.1, a4, ?_⟩
    rw [wI_o _ _ _ _ (by omega), wI_o _ _ _ _ (by omega), wI_v]
theorem it_L (hn : n ≤ 120) (hx : ∀ j, j < n → x j ≤ 255) (ht : t = 64 ∨ t = 68) (hb : b = 132 - t) (hq : q ≤ n) (h : TC Mc n x q) (d : DRc b τ ω fm fl it Mc) (g : TM Md n x q) (h8 : Md.1 0 8 = -1) (e : DRm τ ω fm fl Md) (ok : OKt τ ω) (hf : fl = false) : ItOut t b n x q it Mc Md (fX4_readsLife b Mc) (fX7_readsItem (nI 108) Md) := by
  obtain ⟨M1, a1, a2, a3, a4, a5⟩ := c_number hn hx hq h (lo := 10) (hi := 99) (by decide) (by decide)
  obtain ⟨m1, m2⟩ := m_number hn hx hq g h8 (lo := 10) (hi := 99) (by decide) (by decide)
  have d' := a2.D (by omega) d
  have hE := tE_le x hq
  have hS := tS_le x hq
  have hic : IC t b 7 ∧ IC t 1 7 := ⟨by unfold IC; omega, by unfold IC; omega⟩
  have him : IM 2 7 ∧ IM 0 9 ∧ IM 0 8 := ⟨by unfold IM; omega, by unfold IM; omega, by unfold IM; omega⟩
  subst hf
  unfold fX4_readsLife fX7_readsItem
  rw [d.2.2.2.2.2.2.2.2, if_pos (show b2i false = 0 by decide), if_neg (show ¬ nI 108 = 97 by decide), if_neg (show ¬ nI 108 = 119 by decide), if_neg (show ¬ nI 108 = 109 by decide), show (10 : Int32) = nI 10 from rfl, show (99 : Int32) = nI 99 from rfl, a1, b2_s, ct7]
  rcases Bool.eq_false_or_eq_true (okN n x q 10 99) with o | o
  · obtain ⟨o1, o2, o3⟩ := okN_t o
    obtain ⟨D1, n1, n2, n3⟩ := m1 o
    have e' := n2.D e
    rw [o, if_neg (show ¬ b2i true = 0 by decide), a5 o, lt_eq, lt_eq, n1, b2_s, lt_eq, wI_o _ _ _ _ (by omega), e'.2.2.2.2.2.2, lt_eq]
    left
    obtain ⟨d1, d2, d3, d4, d5, d6, d7, d8, d9⟩ := d'
    obtain ⟨e1, e2, e3, e4, e5, e6, e7⟩ := e'
    refine ⟨_, _, tE n x q, uN τ 3 (tK n x q).2, ω, fm, true, rfl, rfl, by omega, hE.2.1, OKt_L ok ⟨o2, o3⟩, (a2.K.w hic.1).w hic.2, (n2.K.w him.1).w him.2.1, (a3.w (by omega)).w (by omega), (n3.w (by omega)).w (by omega), ?_, ⟨?_, ?_, ?_, ?_, ?_, fun r hr' => ?_, fun w hw => ?_, ?_, ?_⟩, ⟨?_, ?_, ?_, ?_, fun r hr' => ?_, fun w hw => ?_, ?_⟩⟩
    · rw [wI_o _ _ _ _ (by omega), wI_o _ _ _ _ (by omega), n2.2 _ _ (by omega), h8]
    · rw [wI_o _ _ _ _ (by omega), wI_o _ _ _ _ (by omega), d1]
    · rw [wI_o _ _ _ _ (by omega), wI_o _ _ _ _ (by omega), uN_k _ _ _ (by decide), d2]
    · rw [wI_o _ _ _ _ (by omega), wI_o _ _ _ _ (by omega), uN_k _ _ _ (by decide), d3]
    · rw [wI_o _ _ _ _ (by omega), wI_o _ _ _ _ (by omega), uN_k _ _ _ (by decide), d4]
    · rw [wI_o _ _ _ _ (by omega), wI_v, uN_v]
    · rw [uN_k _ _ _ (by decide)] at hr'
      rw [wI_o _ _ _ _ (by omega), wI_o _ _ _ _ (by omega), d6 r (by omega)]
    · rw [uN_k _ _ _ (by decide)] at hw
      rw [wI_o _ _ _ _ (by omega), wI_o _ _ _ _ (by omega), wI_o _ _ _ _ (by omega), wI_o _ _ _ _ (by omega), uN_k _ _ _ (by omega), uN_k _ _ _ (by omega)]
      exact d7 w hw
    · rw [wI_o _ _ _ _ (by omega), wI_o _ _ _ _ (by omega), d8]
    · rw [wI_v]
      rfl
    · rw [wI_o _ _ _ _ (by omega), wI_o _ _ _ _ (by omega), uN_k _ _ _ (by decide), e1]
    · rw [wI_o _ _ _ _ (by omega), wI_o _ _ _ _ (by omega), uN_k _ _ _ (by decide), e2]
    · rw [wI_o _ _ _ _ (by omega), wI_o _ _ _ _ (by omega), uN_k _ _ _ (by decide), e3]
    · rw [wI_o _ _ _ _ (by omega), wI_v, uN_v]
    · rw [uN_k _ _ _ (by decide)] at hr'
      rw [wI_o _ _ _ _ (by omega), wI_o _ _ _ _ (by omega), e5 r (by omega)]
    · rw [uN_k _ _ _ (by decide)] at hw
      rw [wI_o _ _ _ _ (by omega), wI_o _ _ _ _ (by omega), wI_o _ _ _ _ (by omega), wI_o _ _ _ _ (by omega), uN_k _ _ _ (by omega), uN_k _ _ _ (by omega)]
      exact e6 w hw
    · rw [wI_v]
      cases fm <;> rfl
  · have n1 := m2 o
    rw [o, if_pos (show b2i false = 0 by decide), n1, b2_s, lt_eq, lt_eq]
    right
    refine ⟨_, _, tS n x q, rfl, rfl, hS.2, a2.K, (((keepM.r Md).w him.2.2).w him.1).w him.2.1, a4, ?_⟩
    rw [wI_o _ _ _ _ (by omega), wI_o _ _ _ _ (by omega), wI_v]
theorem it_W (hn : n ≤ 120) (hx : ∀ j, j < n → x j ≤ 255) (ht : t = 64 ∨ t = 68) (hb : b = 132 - t) (hq : q ≤ n) (h : TC Mc n x q) (d : DRc b τ ω fm fl it Mc) (g : TM Md n x q) (h8 : Md.1 0 8 = -1) (e : DRm τ ω fm fl Md) (ok : OKt τ ω) (hw5 : τ 2 < 5) : ItOut t b n x q it Mc Md (fX4_readsWork b Mc) (fX7_readsItem (nI 119) Md) := by
  obtain ⟨M1, a1, a2, a3, a4, a5⟩ := c_number hn hx hq h (lo := 0) (hi := 99) (by decide) (by decide)
  obtain ⟨m1, m2⟩ := m_number hn hx hq g h8 (lo := 0) (hi := 99) (by decide) (by decide)
  have d' := a2.D (by omega) d
  have hE := tE_le x hq
  have hS := tS_le x hq
  have hic : ∀ k, IC t (b + 2) k ∧ IC t (b + 3) k ∧ IC t b k := fun k => ⟨by unfold IC; omega, by unfold IC; omega, by unfold IC; omega⟩
  have him : ∀ k, IM 4 (5 + k) ∧ IM 5 (5 + k) ∧ IM 2 6 ∧ IM 0 8 := fun k => ⟨by unfold IM; omega, by unfold IM; omega, by unfold IM; omega, by unfold IM; omega⟩
  unfold fX4_readsWork fX7_readsItem
  rw [d.2.2.2.1, if_neg (show ¬ (5 : Int32) ≤ nI (τ 2) from nI_ge (b := 5) hw5 (by decide)), if_neg (show ¬ nI 119 = 97 by decide), if_pos (show nI 119 = 119 from rfl), show (0 : Int32) = nI 0 from rfl, show (99 : Int32) = nI 99 from rfl, a1, b2_s, ct6, e.2.2.1, show (5 : Int32) = nI 5 from rfl, nI_add, nI_clamp (by omega)]
  rcases Bool.eq_false_or_eq_true (okN n x q 0 99) with o | o
  · obtain ⟨o1, o2, o3⟩ := okN_t o
    obtain ⟨D1, n1, n2, n3⟩ := m1 o
    have e' := n2.D e
    have n3' := n3.w (a := 4) (k := 5 + τ 2) (v := nI (tK n x q).2) (by omega)
    have h8' : (wI D1 4 (5 + τ 2) (nI (tK n x q).2)).1 0 8 = -1 := by rw [wI_o _ _ _ _ (by omega), n2.2 _ _ (by omega), h8]
    obtain ⟨M2, b1, b2, b3, b4, b5⟩ := c_number hn hx hE.2.1 a3 (lo := (tK n x q).2) (hi := 99) o3 (by decide)
    obtain ⟨m3, m4⟩ := m_number hn hx hE.2.1 n3' h8' (lo := (tK n x q).2) (hi := 99) o3 (by decide)
    have hE2 := tE_le x hE.2.1
    have hS2 := tS_le x hE.2.1
    have d2' := b2.D (by omega) d'
    rw [o, if_neg (show ¬ b2i true = nI 0 by decide), a5 o, b1, b2_s, n1, b2_s, ix_ok (by omega) (by decide), lt_eq (wI D1 4 (5 + τ 2) (nI (tK n x q).2)), ix_ok (by omega) (by decide), wI_v]
    rcases Bool.eq_false_or_eq_true (okN n x (tE n x q) (tK n x q).2 99) with o' | o'
    · obtain ⟨p1, p2, p3⟩ := okN_t o'
      obtain ⟨D2, r1, r2, r3⟩ := m3 o'
      have e2' : (wI D2 5 (5 + τ 2) (nI (tK n x (tE n x q)).2)).1 2 6 = nI (τ 2) := by rw [wI_o _ _ _ _ (by omega), r2.2 _ _ (by omega), wI_o _ _ _ _ (by omega), e'.2.2.1]
      rw [o', if_neg (show ¬ b2i true = nI 0 by decide), d2'.2.2.2.1, ix_ok (by omega) (by decide), nI_clamp (by omega), lt_eq, wI_o _ _ _ _ (by omega), d2'.2.2.2.1, ix_ok (by omega) (by decide), nI_clamp (by omega), wI_o _ _ _ _ (by omega), b5 o', lt_eq, wI_o _ _ _ _ (by omega), wI_o _ _ _ _ (by omega), d2'.2.2.2.1, nI_1, lt_eq, r1, b2_s, ix_ok (by omega) (by decide), lt_eq, e2', nI_1, lt_eq]
      left
      obtain ⟨d1, d2, d3, d4, d5, d6, d7, d8, d9⟩ := d2'
      have e0 : DRm τ ω fm fl D1 := e'
      obtain ⟨e1, e2, e3, e4, e5, e6, e7⟩ := e0
      refine ⟨_, _, tE n x (tE n x q), wkN τ (tK n x q).2 (tK n x (tE n x q)).2, ω, fm, fl, rfl, rfl, by omega, hE2.2.1, OKt_W ok hw5 o3 p3, ((((a2.t b2).K.w (hic _).1).w (hic _).2.1).w (hic _).2.2), (((n2.K.w (him _).1).t r2.K).w (him _).2.1).w (him 0).2.2.1, ((b3.w (by omega)).w (by omega)).w (by omega), (r3.w (by omega)).w (by omega), ?_, ⟨?_, ?_, ?_, ?_, ?_, fun r hr' => ?_, fun w hw => ?_, ?_, ?_⟩, ⟨?_, ?_, ?_, ?_, fun r hr' => ?_, fun w hw => ?_, ?_⟩⟩
      · rw [wI_o _ _ _ _ (by omega), wI_o _ _ _ _ (by omega), r2.2 _ _ (by omega), h8']
      · rw [wI_o _ _ _ _ (by omega), wI_o _ _ _ _ (by omega), wI_o _ _ _ _ (by omega), d1]
      · rw [wI_o _ _ _ _ (by omega), wI_o _ _ _ _ (by omega), wI_o _ _ _ _ (by omega), wkN_o _ _ _ (by omega), d2]
      · rw [wI_o _ _ _ _ (by omega), wI_o _ _ _ _ (by omega), wI_o _ _ _ _ (by omega), wkN_o _ _ _ (by omega), d3]
      · rw [wI_v, wkN_2]
      · rw [wI_o _ _ _ _ (by omega), wI_o _ _ _ _ (by omega), wI_o _ _ _ _ (by omega), wkN_o _ _ _ (by omega), d5]
      · rw [wkN_o _ _ _ (by omega)] at hr'
        rw [wI_o _ _ _ _ (by omega), wI_o _ _ _ _ (by omega), wI_o _ _ _ _ (by omega), d6 r (by omega)]
      · rw [wkN_2] at hw
        by_cases z : w = τ 2
        · rw [z, wkN_l _ _ _ hw5, wkN_h _ _ _ hw5, wI_o _ _ _ _ (by omega), wI_o _ _ _ _ (by omega), wI_v, wI_o _ _ _ _ (by omega), wI_v]
          exact ⟨rfl, rfl⟩
        · rw [wkN_o _ _ _ (by omega), wkN_o _ _ _ (by omega), wI_o _ _ _ _ (by omega), wI_o _ _ _ _ (by omega), wI_o _ _ _ _ (by omega), wI_o _ _ _ _ (by omega), wI_o _ _ _ _ (by omega), wI_o _ _ _ _ (by omega)]
          exact d7 w (by omega)
      · rw [wI_o _ _ _ _ (by omega), wI_o _ _ _ _ (by omega), wI_o _ _ _ _ (by omega), d8]
      · rw [wI_o _ _ _ _ (by omega), wI_o _ _ _ _ (by omega), wI_o _ _ _ _ (by omega), d9]
      · rw [wI_o _ _ _ _ (by omega), wI_o _ _ _ _ (by omega), r2.2 _ _ (by omega), wI_o _ _ _ _ (by omega), wkN_o _ _ _ (by omega), e1]
      · rw [wI_o _ _ _ _ (by omega), wI_o _ _ _ _ (by omega), r2.2 _ _ (by omega), wI_o _ _ _ _ (by omega), wkN_o _ _ _ (by omega), e2]
      · rw [wI_v, wkN_2]
      · rw [wI_o _ _ _ _ (by omega), wI_o _ _ _ _ (by omega), r2.2 _ _ (by omega), wI_o _ _ _ _ (by omega), wkN_o _ _ _ (by omega), e4]
      · rw [wkN_o _ _ _ (by omega)] at hr'
        rw [wI_o _ _ _ _ (by omega), wI_o _ _ _ _ (by omega), r2.2 _ _ (by omega), wI_o _ _ _ _ (by omega), e5 r (by omega)]
      · rw [wkN_2] at hw
        by_cases z : w = τ 2
        · rw [z, wkN_l _ _ _ hw5, wkN_h _ _ _ hw5, wI_o _ _ _ _ (by omega), wI_o _ _ _ _ (by omega), r2.2 _ _ (by omega), wI_v, wI_o _ _ _ _ (by omega), wI_v]
          exact ⟨rfl, rfl⟩
        · rw [wkN_o _ _ _ (by omega), wkN_o _ _ _ (by omega), wI_o _ _ _ _ (by omega), wI_o _ _ _ _ (by omega), r2.2 _ _ (by omega), wI_o _ _ _ _ (by omega), wI_o _ _ _ _ (by omega), wI_o _ _ _ _ (by omega), r2.2 _ _ (by omega), wI_o _ _ _ _ (by omega)]
          exact e6 w (by omega)
      · rw [wI_o _ _ _ _ (by omega), wI_o _ _ _ _ (by omega), r2.2 _ _ (by omega), wI_o _ _ _ _ (by omega), e7]
    · have r1 := m4 o'
      rw [o', if_pos (show b2i false = nI 0 by decide), r1, b2_s, ix_ok (by omega) (by decide), lt_eq, lt_eq]
      right
      refine ⟨_, _, tS n x (tE n x q), rfl, rfl, hS2.2, (a2.t b2).K, ((((n2.K.w (him _).1).w (him 0).2.2.2).w (him _).2.1).w (him 0).2.2.1), b4, ?_⟩
      rw [wI_o _ _ _ _ (by omega), wI_o _ _ _ _ (by omega), wI_v]
  · have n1 := m2 o
    have hill : (wI (wI Md 0 8 (nI (tS n x q))) 4 (5 + τ 2) 0).1 0 8 = nI (tS n x q) := by rw [wI_o _ _ _ _ (by omega), wI_v]
    have hnum : ∀ lo hi, fX7_number lo hi (wI (wI Md 0 8 (nI (tS n x q))) 4 (5 + τ 2) 0) = some (0, wI (wI Md 0 8 (nI (tS n x q))) 4 (5 + τ 2) 0) := fun lo hi => by
      unfold fX7_number
      have hj : ∀ c : Option Int32, (∃ j, c = some j) → bP c (fun j2 => b2 (fX7_takes j2 (wI (wI Md 0 8 (nI (tS n x q))) 4 (5 + τ 2) 0)) (fun v8 M9 => some (v8, M9))) = some (0, wI (wI Md 0 8 (nI (tS n x q))) 4 (5 + τ 2) 0) := by
        rintro _ ⟨j, rfl⟩
        rw [bP_s, m_takesI hill (by omega), b2_s]
      refine hj _ ?_
      unfold fX7_in
      repeat' split
      all_goals first | exact ⟨_, rfl⟩ | (simp only [bP_s]; repeat' split) <;> exact ⟨_, rfl⟩
    rw [o, if_pos (show b2i false = nI 0 by decide), n1, b2_s, ix_ok (by omega) (by decide), lt_eq, ix_ok (by omega) (by decide), hnum, b2_s, ix_ok (by omega) (by decide), lt_eq, lt_eq]
    right
    refine ⟨_, _, tS n x q, rfl, rfl, hS.2, a2.K, ((((keepM.r Md).w (him 0).2.2.2).w (him _).1).w (him _).2.1).w (him 0).2.2.1, a4, ?_⟩
    rw [wI_o _ _ _ _ (by omega), wI_o _ _ _ _ (by omega), wI_o _ _ _ _ (by omega), wI_v]
end IT2

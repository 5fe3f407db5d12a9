/-! ===== now, fills, carry ===== -/
def farF (M0 M : Mm) : Prop := M.2 = M0.2 ∧ ∀ j i, (j < 51 ∨ 60 < j) → M.1 j i = M0.1 j i
theorem farF.r (M : Mm) : farF M M := ⟨rfl, fun _ _ _ => rfl⟩
theorem farF.w {M0 M : Mm} (h : farF M0 M) {a k : Nat} {v : Int32} (ha : 51 ≤ a ∧ a ≤ 60) : farF M0 (wI M a k v) :=
  ⟨h.1, fun j i q => by rw [wI_a _ _ _ _ (by omega), h.2 j i q]⟩
theorem farF.t {M0 M N : Mm} (h : farF M0 M) (g : farF M N) : farF M0 N := ⟨g.1.trans h.1, fun j i q => (g.2 j i q).trans (h.2 j i q)⟩
theorem farT.F {M0 M : Mm} (h : farT M0 M) : farF M0 M := ⟨h.1, fun j i q => h.2 j i (by omega)⟩
def far12 (M0 M : Mm) : Prop := M.2 = M0.2 ∧ ∀ j i, j < 12 → M.1 j i = M0.1 j i
theorem far12.r (M : Mm) : far12 M M := ⟨rfl, fun _ _ _ => rfl⟩
theorem far12.w {M0 M : Mm} (h : far12 M0 M) {a k : Nat} {v : Int32} (ha : 12 ≤ a) : far12 M0 (wI M a k v) :=
  ⟨h.1, fun j i q => by rw [wI_a _ _ _ _ (by omega), h.2 j i q]⟩
theorem far12.t {M0 M N : Mm} (h : far12 M0 M) (g : far12 M N) : far12 M0 N := ⟨g.1.trans h.1, fun j i q => (g.2 j i q).trans (h.2 j i q)⟩
theorem farD.G {M0 M : Mm} (h : farD M0 M) : far12 M0 M := ⟨h.1, fun j i q => h.2 j i (by omega)⟩
theorem RelT.fl {t : Nat} {τ μ : Nat → Nat} {Mc Md Mc' Md' : Mm} (h : RelT t τ μ Mc Md) (h1 : farF Mc Mc') (h2 : far12 Md Md') : RelT t τ μ Mc' Md' :=
  h.cong (fun a k q => h1.2 a k (by unfold IC at q; omega)) (fun a k q => h2.2 a k (by unfold IM at q; omega)) h1.1 h2.1
theorem RT_CTt {t : Nat} {Mc Md : Mm} {τ : Nat → Nat} (h : RT t Mc Md τ) : CTt t Mc τ := h.2.1
theorem wof_b {τ : Nat → Nat} (μ : Nat → Nat) (c w : Nat) (h : (wof τ μ c).testBit w = true) : w < τ 2 := by
  unfold wof at h
  split at h
  · rw [wk_bit] at h
    exact of_decide_eq_true (Bool.and_eq_true_iff.mp h).1
  · rw [Nat.zero_testBit] at h
    cases h
theorem c_tell {t : Nat} {τ μ : Nat → Nat} {Mc Md : Mm} (h : RelT t τ μ Mc Md) : ∃ M', fX6_tellFilling Mc = some M' ∧ farF Mc M' ∧ FC M' (wof τ μ) (τ 1) (τ 2) := by
  have hT := h.1.1
  have ht := isT_2 h.1.2.1.1
  have h61 := hT.2.1.2
  have hct := h.1.2.1
  have f0 : farF Mc (wI (wI Mc 51 2 (nI (τ 1))) 51 3 (nI (τ 2))) := ((farF.r Mc).w (by omega)).w (by omega)
  have a1 : (wI Mc 51 2 (nI (τ 1))).1 0 7 = Mc.1 0 7 := by rw [wI_a _ _ _ _ (by decide)]
  have a2 : (wI Mc 51 2 (nI (τ 1))).1 t 6 = nI (τ 2) := by rw [wI_a _ _ _ _ (by omega)]; exact hct.2.2.2.2.1
  obtain ⟨b, hb, h1, h2, h3, h4, h5⟩ := loop_inv0 (fun m (s : Int32 × Mm) => fX6_tellFilling_L30 m s.1 s.2) (fun k s => s.1 = nI k ∧ farF Mc s.2 ∧ s.2.1 51 2 = nI (τ 1) ∧ s.2.1 51 3 = nI (τ 2) ∧ ∀ c, c < k → s.2.1 52 c = nI (wof τ μ c)) (τ 1) (fun b => b.1 = nI (τ 1) ∧ farF Mc b.2 ∧ b.2.1 51 2 = nI (τ 1) ∧ b.2.1 51 3 = nI (τ 2) ∧ ∀ c, c < τ 1 → b.2.1 52 c = nI (wof τ μ c)) (n := 50000) (s := (nI 0, wI (wI Mc 51 2 (nI (τ 1))) 51 3 (nI (τ 2)))) (by omega) ⟨rfl, f0, by rw [wI_k _ _ _ _ (by decide), wI_v], wI_v _ _ _ _, fun c hc => absurd hc (by omega)⟩
    (fun n s hs => by
      obtain ⟨x, M⟩ := s
      obtain ⟨s1, s2, s3, s4, s5⟩ := hs
      dsimp only at s1 s2 s3 s4 s5
      subst s1
      have hr := h.fl s2 (far12.r _)
      dsimp only
      rw [fX6_tellFilling_L30, c_told hr.1.2.1.2.1 hr.1.2.1.1, gd_ok hr.1.2.1.1, hr.1.2.1.2.2.2.1, if_pos (Int32.le_refl _)]
      exact ⟨_, rfl, rfl, s2, s3, s4, s5⟩)
    (fun n k s hk hs => by
      obtain ⟨x, M⟩ := s
      obtain ⟨s1, s2, s3, s4, s5⟩ := hs
      dsimp only at s1 s2 s3 s4 s5
      subst s1
      have hr := h.fl s2 (far12.r _)
      dsimp only
      rw [fX6_tellFilling_L30, c_told hr.1.2.1.2.1 hr.1.2.1.1, gd_ok hr.1.2.1.1, hr.1.2.1.2.2.2.1, if_neg (nI_ge hk (by omega)), c_worksOfChild hT hr.1.2.1 hr.2.1.1 hr.2.1.2.2 (by omega), bP_s, ix_ok (by omega) (by decide), nI_clamp (by omega), lt_eq, nI_1]
      refine ⟨(nI (k + 1), wI M 52 k (nI (wof τ μ k))), rfl, rfl, s2.w (by omega), by rw [wI_a _ _ _ _ (by decide), s3], by rw [wI_a _ _ _ _ (by decide), s4], fun c hc => ?_⟩
      dsimp only
      by_cases e : c = k
      · subst e
        rw [wI_v]
      · rw [wI_k _ _ _ _ e, s5 c (by omega)])
  obtain ⟨b1, b2⟩ := b
  dsimp only at h1 h2 h3 h4 h5
  subst h1
  unfold fX6_tellFilling
  rw [c_told hct.2.1 hct.1, gd_ok hct.1, hct.2.2.2.1, lt_eq, a1, c_told hct.2.1 hct.1, gd_ok hct.1, a2, lt_eq, show (0 : Int32) = nI 0 from rfl, hb, b2_s]
  exact ⟨_, rfl, h2, h3, h4, by omega, hT.2.2.1, h5, fun c => by have := wof_lt hT μ c; omega, wof_b μ⟩
theorem c_most {t : Nat} {τ μ : Nat → Nat} {Mc Md : Mm} (h : RelT t τ μ Mc Md) : ∃ M', fX6_mostFilled Mc = some (nI (Fi (wof τ μ) (τ 2) (τ 1) 0 0), M') ∧ farF Mc M' ∧ FC M' (wof τ μ) (τ 1) (τ 2) ∧ FT M' (wof τ μ) (τ 1) (τ 2) 0 := by
  obtain ⟨M1, e1, e2, e3⟩ := c_tell h
  obtain ⟨M2, g1, g2, g3⟩ := c_solve e3
  unfold fX6_mostFilled
  rw [e1, bP_s, g1, b2_s]
  exact ⟨M2, rfl, e2.t g2.F, g2.FC e3, g3⟩
theorem m_asNow {t : Nat} {τ μ : Nat → Nat} {Mc Md : Mm} (h : RelT t τ μ Mc Md) : ∃ M', fX7_asNow Md = some M' ∧ far12 Md M' ∧ FD M' (wof τ μ) (τ 1) := by
  have hT := h.1.1
  have h61 := hT.2.1.2
  obtain ⟨b, hb, h1, h2, h3⟩ := loop_inv0 (fun m (s : Int32 × Mm) => fX7_asNow_L2 m s.1 s.2) (fun k s => s.1 = nI k ∧ far12 Md s.2 ∧ ∀ c, c < k → c < τ 1 → s.2.1 12 c = nI (wof τ μ c)) 6 (fun b => b.1 = nI 6 ∧ far12 Md b.2 ∧ ∀ c, c < τ 1 → b.2.1 12 c = nI (wof τ μ c)) (n := 50000) (s := (nI 0, Md)) (by omega) ⟨rfl, far12.r _, fun c hc => absurd hc (by omega)⟩
    (fun n s hs => by
      obtain ⟨x, M⟩ := s
      obtain ⟨s1, s2, s3⟩ := hs
      dsimp only at s1 s2 s3
      subst s1
      dsimp only
      rw [fX7_asNow_L2, if_pos (show (6 : Int32) ≤ nI 6 by decide)]
      exact ⟨_, rfl, rfl, s2, fun c hc => s3 c (by omega) hc⟩)
    (fun n k s hk hs => by
      obtain ⟨x, M⟩ := s
      obtain ⟨s1, s2, s3⟩ := hs
      dsimp only at s1 s2 s3
      subst s1
      have hr := h.fl (farF.r _) s2
      dsimp only
      rw [fX7_asNow_L2, if_neg (show ¬ (6 : Int32) ≤ nI k from nI_ge (b := 6) hk (by decide)), show M.1 2 ((1 : Int32)).toNatClampNeg = nI (τ 1) from hr.1.2.2.2.2.1, nI_1]
      by_cases q : τ 1 ≤ k
      · rw [if_pos (nI_le q (by omega)), ix_ok hk (by decide), nI_clamp (by omega), lt_eq]
        refine ⟨(nI (k + 1), wI M 12 k 0), rfl, rfl, s2.w (by omega), fun c hc hc1 => ?_⟩
        dsimp only
        rw [wI_k _ _ _ _ (by omega), s3 c (by omega) hc1]
      · rw [if_neg (nI_ge (by omega) (by omega)), m_worksOf hT hr.1.2.2.2 hr.2.1.2.1 hr.2.1.2.2 hk, bP_s, ix_ok hk (by decide), nI_clamp (by omega), lt_eq]
        refine ⟨(nI (k + 1), wI M 12 k (nI (wof τ μ k))), rfl, rfl, s2.w (by omega), fun c hc hc1 => ?_⟩
        dsimp only
        by_cases e : c = k
        · subst e
          rw [wI_v]
        · rw [wI_k _ _ _ _ e, s3 c (by omega) hc1])
  obtain ⟨b1, b2⟩ := b
  dsimp only at h1 h2 h3
  subst h1
  unfold fX7_asNow
  rw [show (0 : Int32) = nI 0 from rfl, hb, b2_s]
  exact ⟨_, rfl, h2, by rw [h2.2 _ _ (by decide)]; exact h.1.2.2.2.2.1, h61, h3, fun c => by have := wof_lt hT μ c; omega⟩
theorem R_fills {Mc Md : Mm} (h : Rel Mc Md) (p : Int32) : ∃ r Mc' Md', fX6_fills p Mc = some (r, Mc') ∧ fX7_fills p Md = some (r, Md') ∧ Rel Mc' Md' := by
  obtain ⟨t, τ, μ, h⟩ := h
  have hz := h.z
  have hT := h.1.1
  have h61 := hT.2.1.2
  unfold fX6_fills fX7_fills
  rw [lt_eq, c_isMother hT h.1.2.1, m_isChild hT hz.1.2.2.2, bP_s, bP_s]
  generalize wI Md 0 0 0 = Mz at *
  rcases isX_cases (τ 1) (by omega) p with ⟨p, hp, rfl, hb⟩ | ⟨hb, hx⟩
  · obtain ⟨C1, c1, c2, c3, c4⟩ := c_most hz
    obtain ⟨D1, d1, d2, d3⟩ := m_asNow hz
    obtain ⟨D2, d4, d5, d6⟩ := m_filled d3 hT.2.2.1 (wof_b μ)
    have hg := gw_lt (cf := wof τ μ) (W := τ 2) (j := τ 1 - 1 - p) (c := p) (tk := tkA (wof τ μ) (τ 2) (τ 1) p)
    have hW := hT.2.2.1
    rw [hb, if_neg (show ¬ b2i true = 0 by decide), if_neg (show ¬ b2i true = 0 by decide), c1, b2_s, c_workOf c3 c4 hp, bP_s, d1, bP_s, d4, b2_s, ix_ok (by omega) (by decide), nI_clamp (by omega), d6 p hp, ix_ok (by omega) (by decide)]
    unfold wrk
    generalize gw (wof τ μ) (τ 2) (τ 1 - 1 - p) p (tkA (wof τ μ) (τ 2) (τ 1) p) = d at *
    by_cases e : d = 5
    · rw [if_pos e, e, if_pos (show nI 5 = 5 from rfl)]
      exact ⟨_, _, _, rfl, rfl, t, τ, μ, hz.fl c2 (d2.t d5.G)⟩
    · rw [if_neg e, if_neg (show ¬ nI d = 5 from fun q => e ((nI_eq (b := 5) (by omega) (by decide)).mp q))]
      exact ⟨_, _, _, rfl, rfl, t, τ, μ, hz.fl c2 (d2.t d5.G)⟩
  · rw [hb, if_pos (show b2i false = 0 by decide), if_pos (show b2i false = 0 by decide)]
    exact ⟨_, _, _, rfl, rfl, t, τ, μ, hz⟩
theorem R_now {Mc Md : Mm} (h : Rel Mc Md) (p : Int32) : ∃ r Mc' Md', fX6_now p Mc = some (r, Mc') ∧ fX7_now p Md = some (r, Md') ∧ Rel Mc' Md' := by
  obtain ⟨t, τ, μ, h⟩ := h
  have hz := h.z
  have hT := h.1.1
  have ein : fX7_in p 0 4 = some (b2i (inB p 5)) := m_inB (B := 4) (by decide) p
  unfold fX6_now fX7_now
  rw [lt_eq, ein, bP_s]
  generalize wI Md 0 0 0 = Mz at *
  rcases what_cases 5 (by decide) p with ⟨w, hw, rfl, hb⟩ | ⟨hb, hx⟩
  · obtain ⟨u, f, υ, u1, u2, u3, u4, u5, u6⟩ := hz.2.2.2.1
    obtain ⟨C1, c1, c2, c3, c4⟩ := c_most hz
    obtain ⟨D1, d1, d2, d3⟩ := m_asNow hz
    obtain ⟨D2, d4, d5, d6⟩ := m_filled d3 hT.2.2.1 (wof_b μ)
    rw [hb, if_neg (show ¬ b2i true = 0 by decide), d1, bP_s, d4, b2_s, c1, b2_s, h.2.1.1.1, h.2.1.1.2.1, h.2.1.1.2.2.1, show Mz.1 6 ((0 : Int32)).toNatClampNeg = nI (μ 0) from hz.2.1.2.1 0 (by decide), show Mz.1 6 ((14 : Int32)).toNatClampNeg = nI (μ 14) from hz.2.1.2.1 14 (by decide), show Mz.1 6 ((13 : Int32)).toNatClampNeg = nI (μ 13) from hz.2.1.2.1 13 (by decide), u4, d2.2 0 18 (by decide), u5]
    have : w = 0 ∨ w = 1 ∨ w = 2 ∨ w = 3 ∨ w = 4 := by omega
    rcases this with rfl | rfl | rfl | rfl | rfl
    · exact ⟨_, _, _, rfl, rfl, t, τ, μ, hz⟩
    · exact ⟨_, _, _, rfl, rfl, t, τ, μ, hz⟩
    · exact ⟨_, _, _, rfl, rfl, t, τ, μ, hz⟩
    · exact ⟨_, _, _, rfl, rfl, t, τ, μ, hz.fl c2 (d2.t d5.G)⟩
    · exact ⟨_, _, _, rfl, rfl, t, τ, μ, hz.fl (farF.r _) d2⟩
  · rw [hb, if_pos (show b2i false = 0 by decide), if_neg (show ¬ p = 0 from hx 0 (by decide)), if_neg (show ¬ p = 1 from hx 1 (by decide)), if_neg (show ¬ p = 2 from hx 2 (by decide)), if_neg (show ¬ p = 3 from hx 3 (by decide)), if_neg (show ¬ p = 4 from hx 4 (by decide))]
    exact ⟨_, _, _, rfl, rfl, t, τ, μ, hz⟩
/-- what the new one could do that comes in room r -/
def crN (τ μ : Nat → Nat) (r : Nat) : Nat := if τ 3 ≤ ageOf μ r then 0 else wk τ (ageOf μ r)
def cfR (τ μ : Nat → Nat) (p r : Nat) : Nat → Nat := fun c => if c = p then crN τ μ r else wof τ μ c
theorem cr_mk (τ μ : Nat → Nat) (r : Nat) : mk (τ 2) (fun w => decide (ageOf μ r < τ 3) && wd τ w (ageOf μ r)) = crN τ μ r := by
  unfold crN wk
  by_cases h : τ 3 ≤ ageOf μ r
  · rw [if_pos h]
    have : ∀ n, mk n (fun w => decide (ageOf μ r < τ 3) && wd τ w (ageOf μ r)) = 0 := fun n => by
      induction n with
      | zero => rfl
      | succ n ih =>
        rw [mk, ih, if_neg (by simp; omega)]
    exact this _
  · rw [if_neg h]
    exact mk_ext (fun k _ => by simp; omega)
theorem cr_lt {τ μ : Nat → Nat} (hT : TI τ) (r : Nat) : crN τ μ r < 32 := by
  unfold crN
  split
  · decide
  · exact wk_lt hT _
theorem cfR_lt {τ μ : Nat → Nat} (hT : TI τ) (p r c : Nat) : cfR τ μ p r c < 64 := by
  unfold cfR
  have := cr_lt (μ := μ) hT r
  have := wof_lt hT μ c
  split <;> omega
theorem cfR_b {τ μ : Nat → Nat} (p r c w : Nat) (h : (cfR τ μ p r c).testBit w = true) : w < τ 2 := by
  unfold cfR crN at h
  split at h
  · split at h
    · rw [Nat.zero_testBit] at h
      cases h
    · rw [wk_bit] at h
      exact of_decide_eq_true (Bool.and_eq_true_iff.mp h).1
  · exact wof_b μ c w h
def cyF (τ μ : Nat → Nat) (p : Nat) : Nat → Int32 × Int32
  | 0 => (-9, -9)
  | k + 1 => if nI (Fi (cfR τ μ p k) (τ 2) (τ 1) 0 0) ≤ (cyF τ μ p k).2 then cyF τ μ p k else (nI k, nI (Fi (cfR τ μ p k) (τ 2) (τ 1) 0 0))
theorem c_carryL {t : Nat} {τ μ : Nat → Nat} {Mc Md : Mm} (h : RelT t τ μ Mc Md) {M0 : Mm} (h0 : farF Mc M0) (hf : FC M0 (wof τ μ) (τ 1) (τ 2)) {p : Nat} (hp : p < τ 1) : ∃ M', fX6_carry_L50 (nI p) 50000 (-9) (-9) 0 M0 = some ((cyF τ μ p (τ 0)).1, (cyF τ μ p (τ 0)).2, nI (τ 0), M') ∧ farF Mc M' := by
  have hT := h.1.1
  have h60 := hT.1
  have h61 := hT.2.1.2
  obtain ⟨b, hb, h1, h2, h3, h4⟩ := loop_inv0 (fun m (s : Int32 × Int32 × Int32 × Mm) => fX6_carry_L50 (nI p) m s.1 s.2.1 s.2.2.1 s.2.2.2) (fun k s => s.1 = (cyF τ μ p k).1 ∧ s.2.1 = (cyF τ μ p k).2 ∧ s.2.2.1 = nI k ∧ farF Mc s.2.2.2 ∧ s.2.2.2.1 51 2 = nI (τ 1) ∧ s.2.2.2.1 51 3 = nI (τ 2) ∧ ∀ c, c < τ 1 → c ≠ p → s.2.2.2.1 52 c = nI (wof τ μ c)) (τ 0) (fun b => b.1 = (cyF τ μ p (τ 0)).1 ∧ b.2.1 = (cyF τ μ p (τ 0)).2 ∧ b.2.2.1 = nI (τ 0) ∧ farF Mc b.2.2.2) (n := 50000) (s := (-9, -9, nI 0, M0)) (by omega) ⟨rfl, rfl, rfl, h0, hf.1, hf.2.1, fun c hc _ => hf.2.2.2.2.1 c hc⟩
    (fun n s hs => by
      obtain ⟨x, y, z, M⟩ := s
      obtain ⟨s1, s2, s3, s4, s5, s6, s7⟩ := hs
      dsimp only at s1 s2 s3 s4 s5 s6 s7
      subst s3
      have hr := h.fl s4 (far12.r _)
      dsimp only
      rw [fX6_carry_L50, c_told hr.1.2.1.2.1 hr.1.2.1.1, gd_ok hr.1.2.1.1, hr.1.2.1.2.2.1, if_pos (Int32.le_refl _)]
      exact ⟨_, rfl, s1, s2, rfl, s4⟩)
    (fun n k s hk hs => by
      obtain ⟨x, y, z, M⟩ := s
      obtain ⟨s1, s2, s3, s4, s5, s6, s7⟩ := hs
      dsimp only at s1 s2 s3 s4 s5 s6 s7
      subst s3
      subst s1
      subst s2
      have hr := h.fl s4 (far12.r _)
      have hal := ageOf_le hr.2.1.2.2 k
      have hF : FC (wI M 52 p (nI (crN τ μ k))) (cfR τ μ p k) (τ 1) (τ 2) := ⟨by rw [wI_a _ _ _ _ (by decide), s5], by rw [wI_a _ _ _ _ (by decide), s6], h61, hT.2.2.1, fun c hc => by
        unfold cfR
        by_cases e : c = p
        · rw [if_pos e, e, wI_v]
        · rw [if_neg e, wI_k _ _ _ _ e, s7 c hc e], cfR_lt hT p k, cfR_b p k⟩
      obtain ⟨M2, g1, g2, g3⟩ := c_solve hF
      have hw : farF Mc (wI M 52 p (nI (crN τ μ k))) := s4.w (by omega)
      have hF2 := g2.FC hF
      have hk7 : ∀ c, c < τ 1 → c ≠ p → M2.1 52 c = nI (wof τ μ c) := fun c hc e => by
        rw [hF2.2.2.2.2.1 c hc]
        unfold cfR
        rw [if_neg e]
      dsimp only
      rw [fX6_carry_L50, c_told hr.1.2.1.2.1 hr.1.2.1.1, gd_ok hr.1.2.1.1, hr.1.2.1.2.2.1, if_neg (nI_ge hk (by omega)), c_ageOfRoom hT hr.2.1.1 hr.2.1.2.2 (by omega), bP_s, c_worksAt hT hr.1.2.1.2.2 (by omega), bP_s, cr_mk, ix_ok (by omega) (by decide), nI_clamp (by omega), lt_eq, g1, b2_s, nI_1, cyF]
      by_cases e : nI (Fi (cfR τ μ p k) (τ 2) (τ 1) 0 0) ≤ (cyF τ μ p k).2
      · rw [if_pos e, if_pos e]
        exact ⟨(_, _, nI (k + 1), M2), rfl, rfl, rfl, rfl, hw.t g2.F, hF2.1, hF2.2.1, hk7⟩
      · rw [if_neg e, if_neg e]
        exact ⟨(_, _, nI (k + 1), M2), rfl, rfl, rfl, rfl, hw.t g2.F, hF2.1, hF2.2.1, hk7⟩)
  obtain ⟨x, y, z, M'⟩ := b
  dsimp only at h1 h2 h3 h4
  subst h1
  subst h2
  subst h3
  exact ⟨M', hb, h4⟩
theorem m_carryL {t : Nat} {τ μ : Nat → Nat} {Mc Md : Mm} (h : RelT t τ μ Mc Md) {p : Nat} (hp : p < τ 1) : ∃ M', fX7_carry_L51 (nI p) 50000 (-9) (-9) 0 Md = some ((cyF τ μ p (τ 0)).1, (cyF τ μ p (τ 0)).2, nI (τ 0), M') ∧ far12 Md M' := by
  have hT := h.1.1
  have h60 := hT.1
  have h61 := hT.2.1.2
  have h3' := hT.2.2.2.1
  obtain ⟨b, hb, h1, h2, h3, h4⟩ := loop_inv0 (fun m (s : Int32 × Int32 × Int32 × Mm) => fX7_carry_L51 (nI p) m s.1 s.2.1 s.2.2.1 s.2.2.2) (fun k s => s.1 = (cyF τ μ p k).1 ∧ s.2.1 = (cyF τ μ p k).2 ∧ s.2.2.1 = nI k ∧ far12 Md s.2.2.2) (τ 0) (fun b => b.1 = (cyF τ μ p (τ 0)).1 ∧ b.2.1 = (cyF τ μ p (τ 0)).2 ∧ b.2.2.1 = nI (τ 0) ∧ far12 Md b.2.2.2) (n := 50000) (s := (-9, -9, nI 0, Md)) (by omega) ⟨rfl, rfl, rfl, far12.r _⟩
    (fun n s hs => by
      obtain ⟨x, y, z, M⟩ := s
      obtain ⟨s1, s2, s3, s4⟩ := hs
      dsimp only at s1 s2 s3 s4
      subst s3
      have hr := h.fl (farF.r _) s4
      dsimp only
      rw [fX7_carry_L51, show M.1 2 ((0 : Int32)).toNatClampNeg = nI (τ 0) from hr.1.2.2.2.1, if_pos (Int32.le_refl _)]
      exact ⟨_, rfl, s1, s2, rfl, s4⟩)
    (fun n k s hk hs => by
      obtain ⟨x, y, z, M⟩ := s
      obtain ⟨s1, s2, s3, s4⟩ := hs
      dsimp only at s1 s2 s3 s4
      subst s3
      subst s1
      subst s2
      have hr := h.fl (farF.r _) s4
      obtain ⟨M1, a1, a2, a3⟩ := m_asNow hr
      have hr1 := hr.fl (farF.r _) a2
      have hal := ageOf_le hr1.2.1.2.2 k
      have hF : ∀ v, v = crN τ μ k → FD (wI M1 12 p (nI v)) (cfR τ μ p k) (τ 1) := fun v hv => ⟨by rw [wI_a _ _ _ _ (by decide), a3.1], h61, fun c hc => by
        unfold cfR
        by_cases e : c = p
        · rw [if_pos e, e, wI_v, hv]
        · rw [if_neg e, wI_k _ _ _ _ e, a3.2.2.1 c hc], cfR_lt hT p k⟩
      have hw : far12 Md (wI M1 12 p (nI (crN τ μ k))) := (s4.t a2).w (by omega)
      obtain ⟨M2, g1, g2, g3⟩ := m_filled (hF _ rfl) hT.2.2.1 (cfR_b p k)
      dsimp only
      rw [fX7_carry_L51, show M.1 2 ((0 : Int32)).toNatClampNeg = nI (τ 0) from hr.1.2.2.2.1, if_neg (nI_ge hk (by omega)), a1, bP_s, m_ageOf hT hr1.1.2.2.2 hr1.2.1.2.1 hr1.2.1.2.2 hk, bP_s, show M1.1 2 ((3 : Int32)).toNatClampNeg = nI (τ 3) from hr1.1.2.2.2.2.2.2.1, nI_1, cyF]
      by_cases hl : τ 3 ≤ ageOf μ k
      · have hc : crN τ μ k = 0 := if_pos hl
        rw [hc] at g1
        rw [if_pos (nI_le hl (by omega)), ix_ok (by omega) (by decide), nI_clamp (by omega), show (0 : Int32) = nI 0 from rfl, lt_eq, g1, b2_s]
        by_cases e : nI (Fi (cfR τ μ p k) (τ 2) (τ 1) 0 0) ≤ (cyF τ μ p k).2
        · rw [if_pos e, if_pos e, if_pos e]
          exact ⟨(_, _, nI (k + 1), M2), rfl, rfl, rfl, rfl, hw.t g2.G⟩
        · rw [if_neg e, if_neg e, if_neg e]
          exact ⟨(_, _, nI (k + 1), M2), rfl, rfl, rfl, rfl, hw.t g2.G⟩
      · have hc : crN τ μ k = wk τ (ageOf μ k) := if_neg hl
        rw [hc] at g1
        rw [if_neg (nI_ge (by omega) (by omega)), m_worksAt hT hr1.1.2.2.2 (by omega), bP_s, ix_ok (by omega) (by decide), nI_clamp (by omega), lt_eq, g1, b2_s]
        by_cases e : nI (Fi (cfR τ μ p k) (τ 2) (τ 1) 0 0) ≤ (cyF τ μ p k).2
        · rw [if_pos e, if_pos e, if_pos e]
          exact ⟨(_, _, nI (k + 1), M2), rfl, rfl, rfl, rfl, hw.t g2.G⟩
        · rw [if_neg e, if_neg e, if_neg e]
          exact ⟨(_, _, nI (k + 1), M2), rfl, rfl, rfl, rfl, hw.t g2.G⟩)
  obtain ⟨x, y, z, M'⟩ := b
  dsimp only at h1 h2 h3 h4
  subst h1
  subst h2
  subst h3
  exact ⟨M', hb, h4⟩
theorem R_carry {Mc Md : Mm} (h : Rel Mc Md) (p q : Int32) : ∃ r Mc' Md', fX6_carry p q Mc = some (r, Mc') ∧ fX7_carry p q Md = some (r, Md') ∧ Rel Mc' Md' := by
  obtain ⟨t, τ, μ, h⟩ := h
  have hz := h.z
  have hT := h.1.1
  have h61 := hT.2.1.2
  have hI := h.2.1.2.2
  have ein : fX7_in q 0 1 = some (b2i (inB q 2)) := m_inB (B := 1) (by decide) q
  unfold fX6_carry fX7_carry
  rw [lt_eq, c_isMother hT h.1.2.1, m_isChild hT hz.1.2.2.2, ein, bP_s, bP_s, bP_s, show (wI Md 0 0 0).1 6 ((13 : Int32)).toNatClampNeg = nI (μ 13) from hz.2.1.2.1 13 (by decide), h.2.1.1.2.1]
  generalize wI Md 0 0 0 = Mz at *
  rcases isX_cases (τ 1) (by omega) p with ⟨p, hp, rfl, hb⟩ | ⟨hb, hx⟩
  · rw [hb, if_neg (show ¬ b2i true = 0 by decide), if_neg (show ¬ b2i true = 0 by decide)]
    rcases isX_cases 2 (by decide) q with ⟨k, hk, rfl, hb2⟩ | ⟨hb2, hx⟩
    · rw [hb2, if_neg (nI_pos (by omega)), if_pos (show nI k ≤ (1 : Int32) from nI_le (b := 1) (by omega) (by decide)), if_neg (show ¬ b2i true = 0 by decide), has_ok hI.2.2.2.2.1.1 (by omega), mhas_ok hI.2.2.2.2.1.1 (by omega), bP_s, bP_s]
      rcases Bool.eq_false_or_eq_true ((μ 13).testBit p) with e | e
      · rw [e, if_neg (show ¬ b2i true = 0 by decide), if_neg (show ¬ b2i true = 0 by decide)]
        exact ⟨_, _, _, rfl, rfl, t, τ, μ, hz⟩
      · obtain ⟨C1, c1, c2, c3⟩ := c_tell hz
        obtain ⟨C2, c4, c5⟩ := c_carryL hz c2 c3 hp
        obtain ⟨D2, d4, d5⟩ := m_carryL hz hp
        rw [e, if_pos (show b2i false = 0 by decide), if_pos (show b2i false = 0 by decide), c1, bP_s, c4, d4, b4_s, b4_s]
        by_cases y : nI k = 0
        · rw [if_pos y, if_pos y]
          exact ⟨_, _, _, rfl, rfl, t, τ, μ, hz.fl c5 d5⟩
        · rw [if_neg y, if_neg y]
          exact ⟨_, _, _, rfl, rfl, t, τ, μ, hz.fl c5 d5⟩
    · rw [hb2, if_pos (show b2i false = 0 by decide)]
      rcases hx with hx | ⟨hx, hy⟩
      · rw [if_pos hx]
        exact ⟨_, _, _, rfl, rfl, t, τ, μ, hz⟩
      · rw [if_neg hx, if_neg (show ¬ q ≤ (1 : Int32) from fun z => absurd ((le_pred (B := 1) (by decide)).mp z) (Int32.not_lt.mpr hy))]
        exact ⟨_, _, _, rfl, rfl, t, τ, μ, hz⟩
  · rw [hb, if_pos (show b2i false = 0 by decide), if_pos (show b2i false = 0 by decide)]
    exact ⟨_, _, _, rfl, rfl, t, τ, μ, hz⟩

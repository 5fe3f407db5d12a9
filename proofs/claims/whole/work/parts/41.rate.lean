/-! ===== rate ===== -/
def itsI (μ : Nat → Nat) (c : Nat) : Int32 := if (μ 14).testBit c = true then nI (μ (15 + c)) else 0
theorem RelT.tr {t : Nat} {τ μ : Nat → Nat} {Mc Md : Mm} (h : RelT t τ μ Mc Md) (v w : Int64) (e : v = w) : RelT t τ μ (wL Mc (Mc.2 + v)) (wL Md (Md.2 + w)) := by
  subst e
  obtain ⟨a, b, c, d, e, f, g⟩ := h
  exact ⟨a, b, c, d, e, f, by show Mc.2 + v = Md.2 + v; rw [g]⟩
theorem CM_wL {a : Nat} {M : Mm} {τ μ : Nat → Nat} (h : CM τ a M μ) (v : Int64) : CM τ a (wL M v) μ := h
theorem CTt_wL {t : Nat} {M : Mm} {τ : Nat → Nat} (h : CTt t M τ) (v : Int64) : CTt t (wL M v) τ := h
theorem wL_wL (M : Mm) (v u : Int64) : wL (wL M v) u = wL M u := rfl
theorem wL_2' (M : Mm) (v : Int64) : (wL M v).2 = v := rfl
section RT
variable {M : Mm} {τ μ : Nat → Nat} {t c : Nat}
theorem c_rateChild (hm : CM τ 3 M μ) (hI : MI τ μ) (hc : c < 6) : fX6_rateChild (nI c) M = some (itsI μ c, wL M (M.2 + 1)) := by
  unfold fX6_rateChild itsI
  rw [lt_eq, wL_1, hm.2.2.1, has_ok hI.2.2.2.2.2.1.1 hc, bP_s, ix_ok hc (by decide), nI_clamp (by omega)]
  rcases Bool.eq_false_or_eq_true ((μ 14).testBit c) with hp | hp
  · rw [hp, if_neg (by decide), if_pos rfl, show M.1 6 c = nI (μ (15 + c)) from hm.2.2.2.2.2 c hc hp]
  · rw [hp, if_pos (by rfl), if_neg (by decide)]
theorem c_rateAttic (hm : CM τ 3 M μ) (hI : MI τ μ) (hc : c < 6) : fX6_rateAttic (nI c) M = some (itsI μ c + nI (μ 0), wL M (M.2 + 10 + 1)) := by
  unfold fX6_rateAttic
  rw [lt_eq, c_rateChild (M := wL M (M.2 + 10)) (CM_wL hm _) hI hc, b2_s]
  show some (itsI μ c + M.1 3 3, wL M (M.2 + 10 + 1)) = _
  rw [hm.1]
theorem c_rateCellar (hT : TI τ) (hct : CTt t M τ) (hm : CM τ 3 M μ) (hI : MI τ μ) (hc : c < 6) : fX6_rateCellar (nI c) M = some (itsI μ c - nI (cn 6 (wof τ μ c).testBit), wL M (M.2 + 100 + 1)) := by
  unfold fX6_rateCellar
  have hw := wof_lt hT μ c
  rw [lt_eq, c_rateChild (M := wL M (M.2 + 100)) (CM_wL hm _) hI hc, b2_s, c_worksOfChild (t := t) (M := wL (wL M (M.2 + 100)) ((wL M (M.2 + 100)).2 + 1)) hT (CTt_wL (CTt_wL hct _) _) (CM_wL (CM_wL hm _) _) hI hc, bP_s, pc_ok (by omega), bP_s]
  rfl
theorem c_rateGable (hm : CM τ 3 M μ) (hI : MI τ μ) (hc : c < 6) : fX6_rateGable (nI c) M = some (2 * (itsI μ c + nI (μ 0)), wL M (M.2 + 1000 + 10 + 1)) := by
  unfold fX6_rateGable
  rw [lt_eq, c_rateAttic (M := wL M (M.2 + 1000)) (CM_wL hm _) hI hc, b2_s]
  simp only [wL_wL, wL_2']
  done
theorem c_rateCrypt (hT : TI τ) (hct : CTt t M τ) (hm : CM τ 3 M μ) (hI : MI τ μ) (hc : c < 6) : fX6_rateCrypt (nI c) M = some (itsI μ c - nI (cn 6 (wof τ μ c).testBit) + nI c, wL M (M.2 + 10000 + 100 + 1)) := by
  unfold fX6_rateCrypt
  rw [lt_eq, c_rateCellar (M := wL M (M.2 + 10000)) hT (CTt_wL hct _) (CM_wL hm _) hI hc, b2_s]
  simp only [wL_wL, wL_2']
  done
theorem c_rateCart (hm : CM τ 3 M μ) (hI : MI τ μ) (hc : c < 6) : fX6_rateCart (nI c) M = some (itsI μ c + nI (cn 6 (μ 14).testBit), wL M (M.2 + 100000 + 1)) := by
  unfold fX6_rateCart
  rw [lt_eq, c_rateChild (M := wL M (M.2 + 100000)) (CM_wL hm _) hI hc, b2_s]
  show bP (fJ6_bitCount_0f7a4 (M.1 3 5)) _ = _
  rw [hm.2.2.1, pc_ok hI.2.2.2.2.2.1.1, bP_s]
  simp only [wL_wL, wL_2']
  done
end RT
theorem R_rate {Mc Md : Mm} (h : Rel Mc Md) (p q : Int32) : ∃ r Mc' Md', fX6_rate p q Mc = some (r, Mc') ∧ fX7_rate p q Md = some (r, Md') ∧ Rel Mc' Md' := by
  obtain ⟨t, τ, μ, h⟩ := h
  have hz := h.z
  have hT := h.1.1
  have h6 := hT.2.1.2
  have hI := h.2.1.2.2
  have ein : fX7_in p 0 5 = some (b2i (inB p 6)) := m_inB (B := 5) (by decide) p
  have e14 : (wI Md 0 0 0).1 6 ((14 : Int32)).toNatClampNeg = nI (μ 14) := hz.2.1.2.1 14 (by decide)
  have e0 : (wI Md 0 0 0).1 6 ((0 : Int32)).toNatClampNeg = nI (μ 0) := hz.2.1.2.1 0 (by decide)
  have e15 : ∀ k, k < 6 → (wI Md 0 0 0).1 6 (15 + k) = nI (μ (15 + k)) := fun k hk => hz.2.1.2.1 (15 + k) (by omega)
  have e14' : ∀ v, (wL (wI Md 0 0 0) v).1 6 ((14 : Int32)).toNatClampNeg = nI (μ 14) := fun v => e14
  unfold fX6_rate fX7_rate
  rw [lt_eq, ein, bP_s, c_isMother hT h.1.2.1, m_isChild hT hz.1.2.2.2, bP_s, bP_s]
  generalize wI Md 0 0 0 = Mz at *
  rcases isX_cases 6 (by decide) p with ⟨k, hk, rfl, hb⟩ | ⟨hb, hx⟩
  · rw [hb, if_neg (nI_pos (by omega)), if_neg (show ¬ (6 : Int32) ≤ nI k from nI_ge (b := 6) hk (by decide)), if_neg (show ¬ b2i true = 0 by decide)]
    rcases isX_cases (τ 1) (by omega) q with ⟨c, hc, rfl, hb2⟩ | ⟨hb2, hx⟩
    · have hc6 : c < 6 := by omega
      have hw := wof_lt hT μ c
      have ej : (if b2i ((μ 14).testBit c) = 0 then some (0 : Int32) else some (nI (μ (15 + c)))) = some (itsI μ c) := by
        unfold itsI
        rcases Bool.eq_false_or_eq_true ((μ 14).testBit c) with hp | hp
        · rw [hp, if_neg (by decide), if_pos rfl]
        · rw [hp, if_pos (by rfl), if_neg (by decide)]
      rw [hb2, if_neg (show ¬ b2i true = 0 by decide), if_neg (show ¬ b2i true = 0 by decide), c_rateChild h.2.1.1 hI hc6, c_rateAttic h.2.1.1 hI hc6, c_rateCellar hT h.1.2.1 h.2.1.1 hI hc6, c_rateGable h.2.1.1 hI hc6, c_rateCrypt hT h.1.2.1 h.2.1.1 hI hc6, c_rateCart h.2.1.1 hI hc6, e14, mhas_ok hI.2.2.2.2.2.1.1 hc6, bP_s, show (15 : Int32) = nI 15 from rfl, nI_add, ix_ok (by omega) (by decide), nI_clamp (by omega), e15 c hc6, ej, bP_s, m_worksOf hT hz.1.2.2.2 hz.2.1.2.1 hI hc6, bP_s, ones_ok (by omega), bP_s, e0]
      simp only [b2_s, e14', ones_ok hI.2.2.2.2.2.1.1, bP_s, lt_eq]
      have : k = 0 ∨ k = 1 ∨ k = 2 ∨ k = 3 ∨ k = 4 ∨ k = 5 := by omega
      rcases this with rfl | rfl | rfl | rfl | rfl | rfl
      · exact ⟨_, _, _, rfl, rfl, t, τ, μ, hz.tr 1 1 rfl⟩
      · refine ⟨_, _, _, rfl, rfl, t, τ, μ, ?_⟩
        rw [Int64.add_assoc]
        exact hz.tr _ _ (by decide)
      · refine ⟨_, _, _, rfl, rfl, t, τ, μ, ?_⟩
        rw [Int64.add_assoc]
        exact hz.tr _ _ (by decide)
      · refine ⟨_, _, _, rfl, rfl, t, τ, μ, ?_⟩
        rw [Int64.add_assoc, Int64.add_assoc]
        exact hz.tr _ _ (by decide)
      · refine ⟨_, _, _, rfl, rfl, t, τ, μ, ?_⟩
        rw [Int64.add_assoc, Int64.add_assoc]
        exact hz.tr _ _ (by decide)
      · refine ⟨_, _, _, rfl, rfl, t, τ, μ, ?_⟩
        rw [Int64.add_assoc]
        exact hz.tr _ _ (by decide)
    · rw [hb2, if_pos (show b2i false = 0 by decide), if_pos (show b2i false = 0 by decide)]
      exact ⟨_, _, _, rfl, rfl, t, τ, μ, hz⟩
  · rw [hb, if_pos (show b2i false = 0 by decide)]
    rcases hx with hx | ⟨hx, hy⟩
    · rw [if_pos hx]
      exact ⟨_, _, _, rfl, rfl, t, τ, μ, hz⟩
    · rw [if_neg hx, if_pos (show (6 : Int32) ≤ p from hy)]
      exact ⟨_, _, _, rfl, rfl, t, τ, μ, hz⟩

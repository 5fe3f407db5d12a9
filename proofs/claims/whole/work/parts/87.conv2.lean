/-! ===== the made world is the methods' world ===== -/
theorem fvs_cg {ad : Nat → Nat} {rf rf' : Nat → Nat → Option Nat} {M M' : Mm} {a : Nat} : ∀ (ts : List Nat) (k : Nat), (∀ j t, ts[j]? = some t → fvl ad rf' M' a (k + j) t = fvl ad rf M a (k + j) t) → fvs ad rf' M' a k ts = fvs ad rf M a k ts
  | [], _, _ => rfl
  | u :: ts, k, h => by
    have h0 := h 0 u rfl
    have h1 := fvs_cg (ad := ad) (rf := rf) (rf' := rf') (M := M) (M' := M') (a := a) ts (k + 1) (fun j t hj => by
      rw [show k + 1 + j = k + (j + 1) by omega]
      exact h (j + 1) t (by simpa using hj))
    show fvl ad rf' M' a k u :: fvs ad rf' M' a (k + 1) ts = fvl ad rf M a k u :: fvs ad rf M a (k + 1) ts
    rw [h1]
    congr 1
theorem arrV_cg (c : ClassId) {n : Nat} {f g : Nat → Value} (h : ∀ j, j < n → f j = g j) : arrV c n f = arrV c n g := by
  unfold arrV
  congr 1
  apply Array.ext
  · simp
  · intro i h1 h2
    simp only [Array.getElem_ofFn]
    exact h i (by simpa using h1)
theorem kdV_len : ∀ k, k < 80 → k ≠ 0 → (shC k).1 = 0 → (kdV (shC k).2).length ≤ 8 := by decide +kernel
theorem shC_kinds : ∀ k, k < 80 → ((shC k).1 = 0 ∨ (shC k).1 = 1 ∨ (shC k).1 = 2 ∨ k = 8 ∨ k = 49 ∨ k = 53) := by decide +kernel
theorem MC_o {k : Nat} (h : k ≠ 0) : MC.1 k = MA9.1 k := by
  funext j
  unfold MC
  rw [wI_o _ _ _ _ (by omega), wI_o _ _ _ _ (by omega)]
section CNV
variable {D : va_G} {cy : Nat → ClassId} {ad : Nat → Nat} {H : Heap}
theorem conv_obj (k : Nat) (hk : k < 80) (h0 : k ≠ 0) (ho : (shC k).1 = 0) : cof cy ad kdI shC rfB1 MA9 k = cof cy ad kdV shC rfC MC k := by
  unfold cof
  rw [if_pos ho, if_pos ho, kdI_V k hk h0 ho]
  congr 2
  refine fvs_cg _ 0 (fun j t hj => ?_)
  rw [Nat.zero_add]
  have hj8 : j < 8 := Nat.lt_of_lt_of_le (List.getElem?_eq_some_iff.mp hj).1 (kdV_len k hk h0 ho)
  unfold fvl
  rw [MC_o h0]
  by_cases e2 : t = 2
  · subst e2
    have hj3 := kd2_3 k hk h0 ho j hj8 hj
    rcases rfB1_C k hk j hj3 with q | q | q | q
    · exact absurd q h0
    · exact absurd ho q
    · exact absurd hj q
    · rw [q]
      rfl
  · rw [if_neg e2, if_neg e2]
    rfl
theorem conv_0 : cof cy ad kdI shC rfB1 MA9 0 = cof cy ad kdV shC rfC MC 0 := by
  rw [cof_obj sC_0, cof_obj sC_0]
  congr 2
theorem conv_P (h : va_P D vwCl (wsF ad (cof cy ad kdI shC rfB1 MA9) 80) H) : va_P D vwCl (wsF ad (cof cy ad kdV shC rfC MC) 80) H := by
  intro k q hq
  obtain ⟨hk, rfl⟩ := wsF_some hq
  have h1 := h k _ (wsF_get hk)
  by_cases e0 : k = 0
  · subst e0
    rw [← conv_0]
    exact h1
  rcases shC_kinds k hk with hs | hs | hs | rfl | rfl | rfl
  · rw [← conv_obj k hk e0 hs]
    exact h1
  · unfold cof at h1 ⊢
    rw [if_neg (by omega), if_pos hs] at h1 ⊢
    rw [MC_o e0]
    exact h1
  · unfold cof at h1 ⊢
    rw [if_neg (by omega), if_neg (by omega), if_pos hs] at h1 ⊢
    rw [MC_o e0]
    exact h1
  · rw [cof_R (show shC 8 = (3, 10) from rfl)] at h1 ⊢
    refine Eq.trans h1 (congrArg some ?_)
    rw [vp_cell_q, vp_cell_q]
    exact arrV_cg _ (fun j hj => by rw [rfB1_8 j hj])
  · rw [cof_R (show shC 49 = (3, 2) from rfl)] at h1 ⊢
    refine Eq.trans h1 (congrArg some ?_)
    rw [vp_cell_q, vp_cell_q]
    exact arrV_cg _ (fun j hj => by rw [rfB1_49 j hj])
  · rw [cof_G (show shC 53 = (4, 7) from rfl)] at h1 ⊢
    refine Eq.trans h1 (congrArg some ?_)
    rw [vp_cell_q, vp_cell_q]
    exact arrV_cg _ (fun j hj => by rw [rfB1_53 j hj])
end CNV

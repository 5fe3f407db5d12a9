/-! ===== next, rate ===== -/
def tb (g : Nat → Nat) (i : Nat) : Nat → Int32 × Nat
  | 0 => (-9, i)
  | k + 1 => if g k < (tb g i k).2 then (nI k, g k) else tb g i k
theorem tb_eq (g : Nat → Nat) (i j : Nat) (hi : g 0 < i) (hj : g 0 < j) : ∀ k, tb g i (k + 1) = tb g j (k + 1)
  | 0 => by
    show (if g 0 < (tb g i 0).2 then (nI 0, g 0) else tb g i 0) = (if g 0 < (tb g j 0).2 then (nI 0, g 0) else tb g j 0)
    rw [if_pos (show g 0 < (tb g i 0).2 from hi), if_pos (show g 0 < (tb g j 0).2 from hj)]
  | k + 1 => by
    rw [tb, tb_eq g i j hi hj k]
    rfl
theorem tb_le (g : Nat → Nat) (i : Nat) (hg : ∀ k, g k ≤ 200) (hi : i ≤ 200) : ∀ k, (tb g i k).2 ≤ 200
  | 0 => hi
  | k + 1 => by
    rw [tb]
    split
    · exact hg k
    · exact tb_le g i hg hi k
section NX
variable {Mc Md : Mm} {τ : Nat → Nat} {t n : Nat} {sw : Nat → Nat} {sb : Nat → Bool}
/-- of those that can be: how many can do w; the greater part -/
def yes (τ : Nat → Nat) (n : Nat) (sw : Nat → Nat) (sb : Nat → Bool) (w : Nat) : Nat := cn 100 (fun a => alr τ sw sb a n && wd τ w a)
def allA (τ : Nat → Nat) (n : Nat) (sw : Nat → Nat) (sb : Nat → Bool) : Nat := cn 100 (fun a => alr τ sw sb a n)
def grp (τ : Nat → Nat) (n : Nat) (sw : Nat → Nat) (sb : Nat → Bool) (w : Nat) : Nat := if yes τ n sw sb w < allA τ n sw sb - yes τ n sw sb w then allA τ n sw sb - yes τ n sw sb w else yes τ n sw sb w
theorem cn_and (p q : Nat → Bool) : ∀ k, cn k (fun a => p a && q a) ≤ cn k p
  | 0 => Nat.le_refl _
  | k + 1 => by
    have := cn_and p q k
    rw [cn, cn]
    cases p k <;> cases q k <;> simp <;> omega
theorem yes_le (w : Nat) : yes τ n sw sb w ≤ allA τ n sw sb := cn_and _ _ _
theorem allA_le : allA τ n sw sb ≤ 100 := cn_le _ 100
theorem grp_le (w : Nat) : grp τ n sw sb w ≤ allA τ n sw sb := by
  have := yes_le (τ := τ) (n := n) (sw := sw) (sb := sb) w
  unfold grp
  split <;> omega
theorem c_atWork (hT : TI τ) (hc : CTt t Mc τ) (hs : SN Mc Md τ n sw sb) {w : Nat} (hw : w < τ 2) : fX6_possibleAgesAtWork (nI w) Mc = some (nI (yes τ n sw sb w)) := by
  have L : fX6_possibleAgesAtWork_L4 (nI w) Mc 50000 0 0 = some (nI (yes τ n sw sb w), nI 100) :=
    loop_0u (fun m (q : Int32 × Int32) => fX6_possibleAgesAtWork_L4 (nI w) Mc m q.1 q.2) (fun k => (nI (cn k (fun a => alr τ sw sb a n && wd τ w a)), nI k)) 100 _ (by omega)
    (fun m => by
      dsimp only
      rw [fX6_possibleAgesAtWork_L4, if_pos (show (99 : Int32) < nI 100 by decide)]
      rfl)
    (fun m k hk => by
      dsimp only
      rw [fX6_possibleAgesAtWork_L4, if_neg (show ¬ (99 : Int32) < nI k from nI_nlt (a := 99) (by omega) (by decide)), c_told hc.2.1 hc.1, gd_ok hc.1, c_allows hT hc hs (by omega), c_spans hT hc.2.2 hw (by omega), bP_s, bP_s, cn, nI_1, nI_1]
      rcases Bool.eq_false_or_eq_true (alr τ sw sb k n) with hp | hp <;> rcases Bool.eq_false_or_eq_true (wd τ w k) with hq | hq <;> simp [hp, hq, b2i_f, b2i_t, ofN, n10])
  unfold fX6_possibleAgesAtWork
  rw [L]
  rfl
theorem m_next1 (hT : TI τ) (hc : MTt Md τ) (hs : SN Mc Md τ n sw sb) {w : Nat} (hw : w < τ 2) : fX7_next_L35 Md (nI w) 50000 0 0 0 = some (nI (allA τ n sw sb), nI (yes τ n sw sb w), nI 100) :=
  loop_0u (fun m (q : Int32 × Int32 × Int32) => fX7_next_L35 Md (nI w) m q.1 q.2.1 q.2.2) (fun k => (nI (cn k (fun a => alr τ sw sb a n)), nI (cn k (fun a => alr τ sw sb a n && wd τ w a)), nI k)) 100 _ (by omega)
    (fun m => by
      dsimp only
      rw [fX7_next_L35, if_pos (show (100 : Int32) ≤ nI 100 by decide)]
      rfl)
    (fun m k hk => by
      have h5 := hT.2.2.1
      have hw32 := wk_lt hT k
      dsimp only
      rw [fX7_next_L35, if_neg (show ¬ (100 : Int32) ≤ nI k from nI_ge (b := 100) hk (by decide)), m_canBe hT hc hs (by omega), m_worksAt hT hc (by omega)]
      simp only [bP_s]
      rw [mhas_ok (by omega) (by omega), wk_bit]
      simp only [bP_s, hw, decide_true, Bool.true_and, cn, ofN, nI_add]
      rcases Bool.eq_false_or_eq_true (alr τ sw sb k n) with hp | hp <;> rcases Bool.eq_false_or_eq_true (wd τ w k) with hq | hq <;> simp [hp, hq, b2i_f, b2i_t, n10])
end NX
theorem R_next {Mc Md : Mm} (h : Rel Mc Md) : ∃ r Md', fX6_next Mc = some r ∧ fX7_next Md = some (r, Md') ∧ Rel Mc Md' := by
  obtain ⟨t, τ, μ, h⟩ := h
  have hz := h.z
  have hT := h.1.1
  have h5 := hT.2.2.1
  obtain ⟨n, sw, sb, hs⟩ : ∃ n sw sb, SN Mc (wI Md 0 0 0) τ n sw sb := hz.2.2.2.2.2.1
  have hA := allA_le (τ := τ) (n := n) (sw := sw) (sb := sb)
  unfold fX6_next fX7_next
  rw [lt_eq, c_possible hT h.1.2.1 hs, bP_s, show cn 100 (fun a => alr τ sw sb a n) = allA τ n sw sb from rfl]
  generalize wI Md 0 0 0 = Mz at *
  have hg : ∀ k, grp τ n sw sb k ≤ 200 := fun k => by have := grp_le (τ := τ) (n := n) (sw := sw) (sb := sb) k; omega
  have L1 : fX6_next_L23 Mc (nI (allA τ n sw sb)) 50000 (-9) (nI (allA τ n sw sb) + 1) 0 = some ((tb (grp τ n sw sb) (allA τ n sw sb + 1) (τ 2)).1, nI (tb (grp τ n sw sb) (allA τ n sw sb + 1) (τ 2)).2, nI (τ 2)) := by
    rw [nI_1]
    exact loop_0u (fun m (q : Int32 × Int32 × Int32) => fX6_next_L23 Mc (nI (allA τ n sw sb)) m q.1 q.2.1 q.2.2) (fun k => ((tb (grp τ n sw sb) (allA τ n sw sb + 1) k).1, nI (tb (grp τ n sw sb) (allA τ n sw sb + 1) k).2, nI k)) (τ 2) _ (by omega)
      (fun m => by
        dsimp only
        rw [fX6_next_L23, c_told h.1.2.1.2.1 h.1.2.1.1, gd_ok h.1.2.1.1, h.1.2.1.2.2.2.2.1, if_pos (nI_le (Nat.le_refl _) (by omega))])
      (fun m k hk => by
        have hy := yes_le (τ := τ) (n := n) (sw := sw) (sb := sb) k
        have htb := tb_le (grp τ n sw sb) (allA τ n sw sb + 1) hg (by omega) k
        have hgk := hg k
        dsimp only
        rw [fX6_next_L23, c_told h.1.2.1.2.1 h.1.2.1.1, gd_ok h.1.2.1.1, h.1.2.1.2.2.2.2.1, if_neg (nI_ge hk (by omega)), c_atWork hT h.1.2.1 hs hk, bP_s, pk_sub hy, nI_1, show (if nI (yes τ n sw sb k) < nI (allA τ n sw sb - yes τ n sw sb k) then nI (allA τ n sw sb - yes τ n sw sb k) else nI (yes τ n sw sb k)) = nI (grp τ n sw sb k) by
          unfold grp
          by_cases c : yes τ n sw sb k < allA τ n sw sb - yes τ n sw sb k
          · rw [if_pos (nI_lt c (by omega)), if_pos c]
          · rw [if_neg (nI_nlt (by omega) (by omega)), if_neg c], tb]
        by_cases c : grp τ n sw sb k < (tb (grp τ n sw sb) (allA τ n sw sb + 1) k).2
        · rw [if_neg (nI_ge c (by omega)), if_pos c]
        · rw [if_pos (nI_le (by omega) (by omega)), if_neg c])
  have L2 : fX7_next_L16 Mz 50000 (-9) 101 0 0 = some ((tb (grp τ n sw sb) 101 (τ 2)).1, nI (tb (grp τ n sw sb) 101 (τ 2)).2, (if τ 2 = 0 then 0 else nI (allA τ n sw sb)), nI (τ 2)) := by
    exact loop_0u (fun m (q : Int32 × Int32 × Int32 × Int32) => fX7_next_L16 Mz m q.1 q.2.1 q.2.2.1 q.2.2.2) (fun k => ((tb (grp τ n sw sb) 101 k).1, nI (tb (grp τ n sw sb) 101 k).2, (if k = 0 then 0 else nI (allA τ n sw sb)), nI k)) (τ 2) _ (by omega)
      (fun m => by
        dsimp only
        rw [fX7_next_L16, show Mz.1 2 ((2 : Int32)).toNatClampNeg = nI (τ 2) from hz.1.2.2.2.2.2.1, if_pos (nI_le (Nat.le_refl _) (by omega))])
      (fun m k hk => by
        have hy := yes_le (τ := τ) (n := n) (sw := sw) (sb := sb) k
        have htb := tb_le (grp τ n sw sb) 101 hg (by omega) k
        have hgk := hg k
        dsimp only
        rw [fX7_next_L16, show Mz.1 2 ((2 : Int32)).toNatClampNeg = nI (τ 2) from hz.1.2.2.2.2.2.1, if_neg (nI_ge hk (by omega)), m_next1 hT hz.1.2.2.2 hs hk, b3_s, pk_sub hy, nI_1, if_neg (show ¬ k + 1 = 0 by omega), tb]
        unfold grp at *
        by_cases c : yes τ n sw sb k < allA τ n sw sb - yes τ n sw sb k
        · rw [if_pos (nI_le (by omega) (by omega))]
          simp only [if_pos c] at *
          by_cases c2 : allA τ n sw sb - yes τ n sw sb k < (tb (fun w => if yes τ n sw sb w < allA τ n sw sb - yes τ n sw sb w then allA τ n sw sb - yes τ n sw sb w else yes τ n sw sb w) 101 k).2
          · rw [if_neg (nI_ge c2 (by omega)), if_neg (nI_ge c2 (by omega)), if_pos c2]
          · rw [if_pos (nI_le (by omega) (by omega)), if_pos (nI_le (by omega) (by omega)), if_neg c2]
        · simp only [if_neg c] at *
          by_cases c1 : yes τ n sw sb k ≤ allA τ n sw sb - yes τ n sw sb k
          · have e : allA τ n sw sb - yes τ n sw sb k = yes τ n sw sb k := by omega
            rw [if_pos (nI_le c1 (by omega)), e]
            by_cases c2 : yes τ n sw sb k < (tb (fun w => if yes τ n sw sb w < allA τ n sw sb - yes τ n sw sb w then allA τ n sw sb - yes τ n sw sb w else yes τ n sw sb w) 101 k).2
            · rw [if_neg (nI_ge c2 (by omega)), if_neg (nI_ge c2 (by omega)), if_pos c2]
            · rw [if_pos (nI_le (by omega) (by omega)), if_pos (nI_le (by omega) (by omega)), if_neg c2]
          · rw [if_neg (nI_ge (by omega) (by omega))]
            by_cases c2 : yes τ n sw sb k < (tb (fun w => if yes τ n sw sb w < allA τ n sw sb - yes τ n sw sb w then allA τ n sw sb - yes τ n sw sb w else yes τ n sw sb w) 101 k).2
            · rw [if_neg (nI_ge c2 (by omega)), if_neg (nI_ge c2 (by omega)), if_pos c2]
            · rw [if_pos (nI_le (by omega) (by omega)), if_pos (nI_le (by omega) (by omega)), if_neg c2])
  rw [L1, L2, b3_s, b4_s]
  by_cases h0 : τ 2 = 0
  · rw [if_pos h0, if_neg (show ¬ (2 : Int32) ≤ 0 by decide), h0]
    by_cases c : 1 < allA τ n sw sb
    · rw [if_pos (show (1 : Int32) < nI (allA τ n sw sb) from nI_lt (a := 1) c (by omega))]
      exact ⟨_, _, rfl, rfl, t, τ, μ, hz⟩
    · rw [if_neg (show ¬ (1 : Int32) < nI (allA τ n sw sb) from nI_nlt (b := allA τ n sw sb) (a := 1) (by omega) (by decide))]
      exact ⟨_, _, rfl, rfl, t, τ, μ, hz⟩
  · rw [if_neg h0]
    by_cases c : 1 < allA τ n sw sb
    · obtain ⟨k, hk⟩ : ∃ k, τ 2 = k + 1 := ⟨τ 2 - 1, by omega⟩
      have hg0 := grp_le (τ := τ) (n := n) (sw := sw) (sb := sb) 0
      rw [if_pos (show (1 : Int32) < nI (allA τ n sw sb) from nI_lt (a := 1) c (by omega)), if_pos (show (2 : Int32) ≤ nI (allA τ n sw sb) from nI_le (a := 2) c (by omega)), hk, tb_eq (grp τ n sw sb) (allA τ n sw sb + 1) 101 (by omega) (by omega) k]
      exact ⟨_, _, rfl, rfl, t, τ, μ, hz⟩
    · rw [if_neg (show ¬ (1 : Int32) < nI (allA τ n sw sb) from nI_nlt (b := allA τ n sw sb) (a := 1) (by omega) (by decide)), if_neg (show ¬ (2 : Int32) ≤ nI (allA τ n sw sb) from nI_ge (b := 2) (by omega) (by decide))]
      exact ⟨_, _, rfl, rfl, t, τ, μ, hz⟩

/-! ===== rooms and works, read: both sides ===== -/
theorem mk_cut {p : Nat → Bool} {n : Nat} : ∀ m, n ≤ m → (∀ k, n ≤ k → k < m → p k = false) → mk m p = mk n p := by
  intro m
  induction m with
  | zero => intro h _; have : n = 0 := by omega
            rw [this]
  | succ m ih =>
    intro h hz
    by_cases e : n = m + 1
    · rw [e]
    · rw [← mk_no p (hz m (by omega) (by omega)), ih (by omega) (fun k h1 h2 => hz k h1 (by omega))]
theorem sm_cut {f : Nat → Nat} {n : Nat} : ∀ m, n ≤ m → (∀ k, n ≤ k → k < m → f k = 0) → sm m f = sm n f := by
  intro m
  induction m with
  | zero => intro h _; have : n = 0 := by omega
            rw [this]
  | succ m ih =>
    intro h hz
    by_cases e : n = m + 1
    · rw [e]
    · rw [sm, hz m (by omega) (by omega), Nat.add_zero, ih (by omega) (fun k h1 h2 => hz k h1 (by omega))]
theorem cn_pos {p : Nat → Bool} {n k : Nat} (hk : k < n) (hp : p k = true) : 0 < cn n p := by
  induction n with
  | zero => omega
  | succ n ih =>
    rw [cn]
    by_cases e : k = n
    · subst e
      rw [if_pos hp]
      omega
    · have := ih (by omega)
      omega
section MOD
variable {M : Mm} {τ μ : Nat → Nat}
theorem m_joinedWith (hT : TI τ) (hc : MTt M τ) (hm : MMr (M.1 6) μ) (hI : MI τ μ) {r : Nat} (hr : r < τ 0) : fX7_joinedWith (nI r) M = some (nI (jm μ r)) := by
  have h6 := hT.1
  have h2 : M.1 2 ((0 : Int32)).toNatClampNeg = nI (τ 0) := hc.1
  have L : fX7_joinedWith_L4 (nI r) M 50000 0 0 = some (nI (mk (τ 0) (fun k => μ (7 + k) == μ (7 + r))), nI (τ 0)) :=
    loop_0u (fun n (q : Int32 × Int32) => fX7_joinedWith_L4 (nI r) M n q.1 q.2) (fun k => (nI (mk k (fun k => μ (7 + k) == μ (7 + r))), nI k)) (τ 0) _ (by omega)
    (fun n => by
      dsimp only
      rw [fX7_joinedWith_L4, h2, if_pos (nI_le (Nat.le_refl _) (by omega))])
    (fun n k hkk => by
      have hl := (hI.2.2.1 k (by omega)).1
      have hl2 := (hI.2.2.1 r (by omega)).1
      dsimp only
      rw [fX7_joinedWith_L4, h2, if_neg (nI_ge hkk (by omega))]
      simp only [ofN, nI_add]
      rw [ix_ok (by omega) (by decide), ix_ok (by omega) (by decide), nI_clamp (by omega), nI_clamp (by omega), hm (7 + k) (by omega), hm (7 + r) (by omega), s_bitn (by omega)]
      by_cases hp : μ (7 + k) = μ (7 + r)
      · rw [if_pos (by rw [hp]), or_ok (mk_lt6 _ (by omega)) (pow2_lt (by omega)), mk_or (fun k => μ (7 + k) == μ (7 + r)) (by omega) (by simp [hp])]
      · rw [if_neg (fun q => hp ((nI_eq (by omega) (by omega)).mp q)), ← mk_no (fun k => μ (7 + k) == μ (7 + r)) (by simp [hp]), or_ok (mk_lt6 _ (by omega)) (by decide), Nat.or_zero])
  unfold fX7_joinedWith
  rw [L, b2_s]
  unfold jm
  rw [mk_cut 6 h6 (fun k h1 h3 => by simp [MI_lab hI hr h1 h3])]
theorem m_ageBy (hT : TI τ) (hc : MTt M τ) (hm : MMr (M.1 6) μ) (hI : MI τ μ) {set : Nat} (hs : set < 64) (hb : ∀ k, set.testBit k = true → k < τ 0) (h0 : 0 < cn 6 set.testBit) : fX7_ageBy (nI set) M = some (nI (ageBy μ set)) := by
  have h6 := hT.1
  have h2 : M.1 2 ((0 : Int32)).toNatClampNeg = nI (τ 0) := hc.1
  have hsum : ∀ k, k ≤ 6 → sm k (fun r => if set.testBit r = true then μ (1 + r) else 0) ≤ 6 * 198 := fun k hk => by
    have := sm_le (f := fun r => if set.testBit r = true then μ (1 + r) else 0) (b := 198) k (fun r hr => by
      have := MI_old hI (r := r) (by omega)
      split <;> omega)
    omega
  have hcn := cn_le set.testBit 6
  have L : fX7_ageBy_L4 (nI set) M 50000 0 0 = some (nI (sm (τ 0) (fun r => if set.testBit r = true then μ (1 + r) else 0)), nI (τ 0)) :=
    loop_0u (fun n (q : Int32 × Int32) => fX7_ageBy_L4 (nI set) M n q.1 q.2) (fun k => (nI (sm k (fun r => if set.testBit r = true then μ (1 + r) else 0)), nI k)) (τ 0) _ (by omega)
    (fun n => by
      dsimp only
      rw [fX7_ageBy_L4, h2, if_pos (nI_le (Nat.le_refl _) (by omega))])
    (fun n k hkk => by
      dsimp only
      rw [fX7_ageBy_L4, h2, if_neg (nI_ge hkk (by omega)), mhas_ok hs (by omega), bP_s, sm]
      simp only [ofN, nI_add]
      rw [ix_ok (by omega) (by decide), nI_clamp (by omega), hm (1 + k) (by omega)]
      cases hp : set.testBit k with
      | false => simp [b2i_f]
      | true => simp [b2i_t, n10, nI_add])
  unfold fX7_ageBy
  rw [L, b2_s, ones_ok hs, bP_s, nz_ok h0 (by omega), pk_div (by have := hsum (τ 0) h6; omega) h0 (by omega)]
  unfold ageBy
  rw [sm_cut (f := fun r => if set.testBit r = true then μ (1 + r) else 0) 6 h6 (fun k h1 h3 => by
    have : ¬ set.testBit k = true := fun q => by have := hb k q; omega
    simp [this])]
theorem m_ageOf (hT : TI τ) (hc : MTt M τ) (hm : MMr (M.1 6) μ) (hI : MI τ μ) {r : Nat} (hr : r < τ 0) : fX7_ageOf (nI r) M = some (nI (ageOf μ r)) := by
  have h6 := hT.1
  unfold fX7_ageOf
  rw [m_joinedWith hT hc hm hI hr, bP_s, m_ageBy hT hc hm hI (jm_lt μ r) (fun k h => jm_bit hI hr h6 h) (cn_pos (k := r) (by omega) (by unfold jm; rw [mk_bit]; simp; omega)), bP_s]
  rfl
end MOD
/-- who can do a work in some years -/
def wc (τ μ : Nat → Nat) (w y : Nat) : Nat := mk (τ 1) (fun c => (μ 14).testBit c && (decide (μ (15 + c) + y < τ 3) && wd τ w (μ (15 + c) + y)))
theorem wk_bit {τ : Nat → Nat} (age w : Nat) : (wk τ age).testBit w = (decide (w < τ 2) && wd τ w age) := by
  unfold wk
  rw [mk_bit]
theorem wc_0 {τ μ : Nat → Nat} (hI : MI τ μ) {w : Nat} (hw : w < τ 2) : mk (τ 1) (fun c => (wof τ μ c).testBit w) = wc τ μ w 0 := by
  unfold wc
  refine mk_ext (fun c _ => ?_)
  unfold wof
  cases h : (μ 14).testBit c with
  | false => simp
  | true =>
    have := (hI.2.2.2.2.2.1.2 c h).2
    simp [wk_bit, hw, this]
section CLS
variable {M : Mm} {τ μ : Nat → Nat} {t : Nat}
theorem c_whoCanDo (hT : TI τ) (hc : CTt t M τ) (hm : CM τ 3 M μ) (hI : MI τ μ) {w y : Nat} (hw : w < τ 2) (hy : y ≤ 100) : fX6_whoCanDo (nI w) (nI y) M = some (nI (wc τ μ w y)) := by
  have h6 := hT.2.1.2
  have L : fX6_whoCanDo_L5 (nI w) (nI y) M 50000 0 0 = some (nI (wc τ μ w y), nI (τ 1)) :=
    loop_0u (fun n (q : Int32 × Int32) => fX6_whoCanDo_L5 (nI w) (nI y) M n q.1 q.2) (fun k => (nI (mk k (fun c => (μ 14).testBit c && (decide (μ (15 + c) + y < τ 3) && wd τ w (μ (15 + c) + y)))), nI k)) (τ 1) _ (by omega)
    (fun n => by
      dsimp only
      rw [fX6_whoCanDo_L5, c_told hc.2.1 hc.1, gd_ok hc.1, hc.2.2.2.1, if_pos (nI_le (Nat.le_refl _) (by omega))]
      rfl)
    (fun n k hkk => by
      dsimp only
      rw [fX6_whoCanDo_L5, c_told hc.2.1 hc.1, gd_ok hc.1, hc.2.2.2.1, if_neg (nI_ge hkk (by omega)), hm.2.2.1, has_ok hI.2.2.2.2.2.1.1 (by omega), bP_s]
      simp only [ofN, nI_add]
      rw [ix_ok (by omega) (by decide), nI_clamp (by omega), bit_ok (by omega)]
      cases hp : (μ 14).testBit k with
      | false =>
        rw [if_pos b2i_f, ← mk_no (fun c => (μ 14).testBit c && (decide (μ (15 + c) + y < τ 3) && wd τ w (μ (15 + c) + y))) (by simp [hp])]
      | true =>
        have hl := (hI.2.2.2.2.2.1.2 k hp).2
        have h99 := hT.2.2.2.1.2
        rw [if_neg (by decide), show M.1 6 k = nI (μ (15 + k)) from hm.2.2.2.2.2 k (by omega) hp, nI_add, c_does hT hc.2.2 hw (by omega), bP_s, bP_s]
        cases hq : (decide (μ (15 + k) + y < τ 3) && wd τ w (μ (15 + k) + y)) with
        | false => rw [if_pos b2i_f, ← mk_no (fun c => (μ 14).testBit c && (decide (μ (15 + c) + y < τ 3) && wd τ w (μ (15 + c) + y))) (by simp only [hp, hq]; rfl)]
        | true => rw [if_neg (by decide), or_ok (mk_lt6 _ (by omega)) (pow2_lt (by omega)), mk_or (fun c => (μ 14).testBit c && (decide (μ (15 + c) + y < τ 3) && wd τ w (μ (15 + c) + y))) (by omega) (by simp only [hp, hq]; rfl)])
  unfold fX6_whoCanDo
  rw [L]
  rfl
def lastsR (τ μ : Nat → Nat) (w : Nat) : Int32 := match (List.range' 0 61).find? (fun y => wc τ μ w y == 0) with | some i => nI i | none => -9
theorem wc_lt {τ μ : Nat → Nat} (hT : TI τ) (w y : Nat) : wc τ μ w y < 64 := mk_lt6 _ hT.2.1.2
theorem c_lasts (hT : TI τ) (hc : CTt t M τ) (hm : CM τ 3 M μ) (hI : MI τ μ) {w : Nat} (hw : w < τ 2) : fX6_yearsUntilNobody (nI w) M = some (lastsR τ μ w) := by
  have L := loop_find (fun n (q : Int32) => fX6_yearsUntilNobody_L2 (nI w) M n q) (fun k => nI k) 61 (fun y => wc τ μ w y == 0) (.inl (nI 61)) (fun k => .inr (nI k))
    (fun n => by
      rw [fX6_yearsUntilNobody_L2]
      rfl)
    (fun n k hkk hp => by
      have hp : (wc τ μ w k == 0) = _ := hp
      rw [fX6_yearsUntilNobody_L2]
      simp only [ofN]
      rw [if_neg (nI_nlt (by omega) (by decide)), c_whoCanDo hT hc hm hI hw (by omega), bP_s, if_pos (by rw [beq_iff_eq] at hp; rw [hp])])
    (fun n k hkk hp => by
      have hp : (wc τ μ w k == 0) = _ := hp
      have := wc_lt (μ := μ) hT w k
      rw [fX6_yearsUntilNobody_L2]
      simp only [ofN]
      rw [if_neg (nI_nlt (by omega) (by decide)), c_whoCanDo hT hc hm hI hw (by omega), bP_s, if_neg (nI_nen (by simp at hp; omega) (by omega)), nI_add])
    61 50000 0 rfl (by decide)
  have L' : fX6_yearsUntilNobody_L2 (nI w) M 50000 0 = _ := L
  unfold fX6_yearsUntilNobody lastsR
  rw [L']
  cases (List.range' 0 61).find? (fun y => wc τ μ w y == 0) with
  | none => rfl
  | some i => rfl
end CLS
section MOD
variable {M : Mm} {τ μ : Nat → Nat}
theorem m_whoCan (hT : TI τ) (hc : MTt M τ) (hm : MMr (M.1 6) μ) (hI : MI τ μ) {w : Nat} (hw : w < τ 2) : fX7_whoCan (nI w) M = some (nI (wc τ μ w 0)) := by
  have h6 := hT.2.1.2
  have h5 := hT.2.2.1
  have h2 : M.1 2 ((1 : Int32)).toNatClampNeg = nI (τ 1) := hc.2.1
  have L : fX7_whoCan_L4 (nI w) M 50000 0 0 = some (nI (mk (τ 1) (fun c => (wof τ μ c).testBit w)), nI (τ 1)) :=
    loop_0u (fun n (q : Int32 × Int32) => fX7_whoCan_L4 (nI w) M n q.1 q.2) (fun k => (nI (mk k (fun c => (wof τ μ c).testBit w)), nI k)) (τ 1) _ (by omega)
    (fun n => by
      dsimp only
      rw [fX7_whoCan_L4, h2, if_pos (nI_le (Nat.le_refl _) (by omega))])
    (fun n k hkk => by
      have hwl := wof_lt hT μ k
      dsimp only
      rw [fX7_whoCan_L4, h2, if_neg (nI_ge hkk (by omega)), m_worksOf hT hc hm hI (by omega), bP_s, mhas_ok (by omega) (by omega), bP_s, s_bit 0 k (by omega), nI_1]
      cases hp : (wof τ μ k).testBit w with
      | false => rw [if_pos (by rfl), ← mk_no (fun c => (wof τ μ c).testBit w) hp, show (0 : Int32) = nI 0 from rfl, or_ok (mk_lt6 _ (by omega)) (by decide), Nat.or_zero]
      | true => rw [if_neg (by decide), or_ok (mk_lt6 _ (by omega)) (pow2_lt (by omega)), mk_or (fun c => (wof τ μ c).testBit w) (by omega) hp])
  unfold fX7_whoCan
  rw [L, b2_s, wc_0 hI hw]
theorem mk_ne0 {p : Nat → Bool} {n : Nat} (hn : n < 6) : decide (mk (n + 1) p ≠ 0) = (decide (mk n p ≠ 0) || p n) := by
  have h2 : 0 < 2 ^ n := Nat.pow_pos (by decide)
  rw [mk]
  cases h : p n with
  | false => simp
  | true =>
    simp
theorem m_isDoneIn (hT : TI τ) (hc : MTt M τ) (hm : MMr (M.1 6) μ) (hI : MI τ μ) {w y : Nat} (hw : w < τ 2) (hy : y ≤ 100) : fX7_isDoneIn (nI w) (nI y) M = some (b2i (decide (wc τ μ w y ≠ 0))) := by
  have h6 := hT.2.1.2
  have h5 := hT.2.2.1
  have h99 := hT.2.2.2.1.2
  have h2 : M.1 2 ((1 : Int32)).toNatClampNeg = nI (τ 1) := hc.2.1
  have h3 : M.1 2 ((3 : Int32)).toNatClampNeg = nI (τ 3) := hc.2.2.2.1
  have h14 : M.1 6 ((14 : Int32)).toNatClampNeg = nI (μ 14) := hm 14 (by decide)
  have hb := hT.2.2.2.2 w hw
  have hlo := hc.2.2.2.2 w hw
  have L : fX7_isDoneIn_L5 (nI w) (nI y) M 50000 0 0 = some (b2i (decide (wc τ μ w y ≠ 0)), nI (τ 1)) :=
    loop_0u (fun n (q : Int32 × Int32) => fX7_isDoneIn_L5 (nI w) (nI y) M n q.1 q.2) (fun k => (b2i (decide (mk k (fun c => (μ 14).testBit c && (decide (μ (15 + c) + y < τ 3) && wd τ w (μ (15 + c) + y))) ≠ 0)), nI k)) (τ 1) _ (by omega)
    (fun n => by
      dsimp only
      rw [fX7_isDoneIn_L5, h2, if_pos (nI_le (Nat.le_refl _) (by omega))]
      rfl)
    (fun n k hkk => by
      have hag := hI.2.2.2.2.2.2 k (by omega)
      dsimp only
      rw [fX7_isDoneIn_L5, h2, if_neg (nI_ge hkk (by omega)), h3, h14, mhas_ok hI.2.2.2.2.2.1.1 (by omega), bP_s]
      simp only [ofN, nI_add]
      rw [ix_ok (by omega) (by decide), ix_ok (by omega) (by decide), ix_ok (by omega) (by decide), nI_clamp (by omega), nI_clamp (by omega), hm (15 + k) (by omega), nI_add, hlo.1, hlo.2, m_in (by omega) (by omega) (by omega), bP_s, mk_ne0 (by omega)]
      have e : (decide (τ (4 + w) ≤ μ (15 + k) + y) && decide (μ (15 + k) + y ≤ τ (10 + w))) = wd τ w (μ (15 + k) + y) := rfl
      rw [e]
      cases hq : decide (mk k (fun c => (μ 14).testBit c && (decide (μ (15 + c) + y < τ 3) && wd τ w (μ (15 + c) + y))) ≠ 0) with
      | true => rw [if_neg (by decide)]; rfl
      | false =>
        rw [if_pos b2i_f]
        cases hp : (μ 14).testBit k with
        | false => rw [if_pos b2i_f]; rfl
        | true =>
          rw [if_neg (by decide)]
          by_cases hl : μ (15 + k) + y < τ 3
          · rw [if_neg (nI_ge hl (by omega))]
            cases hz : wd τ w (μ (15 + k) + y) with
            | false => rw [if_pos b2i_f]; simp [hl]; rfl
            | true => rw [if_neg (by decide)]; simp [hl]; rfl
          · rw [if_pos (nI_le (by omega) (by omega))]
            simp [hl]
            rfl)
  unfold fX7_isDoneIn
  rw [L, b2_s, zb_b]
theorem m_lasts (hT : TI τ) (hc : MTt M τ) (hm : MMr (M.1 6) μ) (hI : MI τ μ) {w : Nat} (hw : w < τ 2) : fX7_lastsOf (nI w) M = some (lastsR τ μ w) := by
  have L := loop_find (fun n (q : Int32) => fX7_lastsOf_L2 (nI w) M n q) (fun k => nI k) 61 (fun y => wc τ μ w y == 0) (.inl (nI 61)) (fun k => .inr (nI k))
    (fun n => by
      rw [fX7_lastsOf_L2]
      rfl)
    (fun n k hkk hp => by
      have hp : (wc τ μ w k == 0) = _ := hp
      rw [fX7_lastsOf_L2]
      simp only [ofN]
      rw [if_neg (nI_nlt (by omega) (by decide)), m_isDoneIn hT hc hm hI hw (by omega), bP_s, if_pos (by rw [beq_iff_eq] at hp; simp [hp]; rfl)])
    (fun n k hkk hp => by
      have hp : (wc τ μ w k == 0) = _ := hp
      rw [fX7_lastsOf_L2]
      simp only [ofN]
      rw [if_neg (nI_nlt (by omega) (by decide)), m_isDoneIn hT hc hm hI hw (by omega), bP_s, if_neg (by simp at hp; simp [hp]; decide), nI_add])
    61 50000 0 rfl (by decide)
  have L' : fX7_lastsOf_L2 (nI w) M 50000 0 = _ := L
  unfold fX7_lastsOf lastsR
  rw [L']
  cases (List.range' 0 61).find? (fun y => wc τ μ w y == 0) with
  | none => rfl
  | some i => rfl
end MOD

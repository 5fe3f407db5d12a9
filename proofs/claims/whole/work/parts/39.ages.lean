/-! ===== ages, next ===== -/
def alr (τ sw : Nat → Nat) (sb : Nat → Bool) (age : Nat) : Nat → Bool
  | 0 => true
  | k + 1 => alr τ sw sb age k && (wd τ (sw k) age == sb k)
theorem alr_all {τ sw : Nat → Nat} {sb : Nat → Bool} {age : Nat} : ∀ n, alr τ sw sb age n = true ↔ ∀ i, i < n → (wd τ (sw i) age == sb i) = true
  | 0 => by simp [alr]
  | n + 1 => by
    rw [alr, Bool.and_eq_true, alr_all n]
    constructor
    · intro h i hi
      by_cases e : i = n
      · rw [e]; exact h.2
      · exact h.1 i (by omega)
    · intro h
      exact ⟨fun i hi => h i (by omega), h n (by omega)⟩
theorem b2i_inj {a b : Bool} : b2i a = b2i b ↔ a = b := by cases a <;> cases b <;> decide
/-- what was seen, on both sides -/
def SN (Mc Md : Mm) (τ : Nat → Nat) (n : Nat) (sw : Nat → Nat) (sb : Nat → Bool) : Prop := n ≤ 6 ∧ Mc.1 61 2 = nI n ∧ Md.1 0 21 = nI n ∧ ∀ i, i < n → sw i < τ 2 ∧ Mc.1 62 i = nI (sw i) ∧ Md.1 10 i = nI (sw i) ∧ Mc.1 63 i = b2i (sb i) ∧ Md.1 11 i = b2i (sb i)
section AG
variable {Mc Md : Mm} {τ : Nat → Nat} {t n : Nat} {sw : Nat → Nat} {sb : Nat → Bool}
theorem c_allows (hT : TI τ) (hc : CTt t Mc τ) (hs : SN Mc Md τ n sw sb) {age : Nat} (ha : age < 2 ^ 30) : fX3_allows t (nI age) Mc = some (b2i (alr τ sw sb age n)) := by
  have L := loop_find (fun m (q : Int32) => fX3_allows_L2 t (nI age) Mc m q) (fun k => nI k) n (fun i => !(wd τ (sw i) age == sb i)) (.inl (nI n)) (fun _ => .inr 0)
    (fun m => by
      rw [fX3_allows_L2, hs.2.1, if_pos (nI_le (Nat.le_refl _) (by have := hs.1; omega))])
    (fun m k hk hp => by
      have hp : (!(wd τ (sw k) age == sb k)) = true := hp
      obtain ⟨g1, g2, -, g3, -⟩ := hs.2.2.2 k hk
      have := hs.1
      rw [fX3_allows_L2, hs.2.1, if_neg (nI_ge hk (by omega)), ix_ok (by omega) (by decide), nI_clamp (by omega), g2, g3, c_spans hT hc.2.2 g1 ha, bP_s, ix_ok (by omega) (by decide), if_neg (fun e => by rw [b2i_inj] at e; simp [e] at hp)])
    (fun m k hk hp => by
      have hp : (!(wd τ (sw k) age == sb k)) = false := hp
      obtain ⟨g1, g2, -, g3, -⟩ := hs.2.2.2 k hk
      have := hs.1
      rw [fX3_allows_L2, hs.2.1, if_neg (nI_ge hk (by omega)), ix_ok (by omega) (by decide), nI_clamp (by omega), g2, g3, c_spans hT hc.2.2 g1 ha, bP_s, ix_ok (by omega) (by decide), if_pos (by rw [b2i_inj]; simpa using hp), nI_1])
    n 50000 0 (by omega) (by have := hs.1; omega)
  have L' : fX3_allows_L2 t (nI age) Mc 50000 0 = _ := L
  unfold fX3_allows
  rw [L']
  cases hf : (List.range' 0 n).find? (fun i => !(wd τ (sw i) age == sb i)) with
  | none =>
    have : alr τ sw sb age n = true := (alr_all n).mpr (fun i hi => by
      have := List.find?_eq_none.mp hf i (by simp [List.mem_range'_1]; omega)
      simpa using this)
    rw [this]
    rfl
  | some i =>
    have h1 := List.find?_some hf
    have h2 := List.mem_of_find?_eq_some hf
    have : alr τ sw sb age n = false := by
      rcases Bool.eq_false_or_eq_true (alr τ sw sb age n) with h | h
      · have h3 := (alr_all n).mp h i (by simp [List.mem_range'_1] at h2; omega)
        simp only [h3] at h1
        cases h1
      · exact h
    rw [this]
    rfl
theorem m_canBe (hT : TI τ) (hc : MTt Md τ) (hs : SN Mc Md τ n sw sb) {age : Nat} (ha : age < 2 ^ 30) : fX7_canBe (nI age) Md = some (b2i (alr τ sw sb age n)) := by
  have h6 := hs.1
  have hw32 := wk_lt hT age
  have L : fX7_canBe_L4 (nI age) Md 50000 1 0 = some (b2i (alr τ sw sb age n), nI n) :=
    loop_0u (fun m (q : Int32 × Int32) => fX7_canBe_L4 (nI age) Md m q.1 q.2) (fun k => (b2i (alr τ sw sb age k), nI k)) n _ (by omega)
    (fun m => by
      dsimp only
      rw [fX7_canBe_L4, hs.2.2.1, if_pos (nI_le (Nat.le_refl _) (by omega))])
    (fun m k hk => by
      obtain ⟨g1, -, g2, -, g3⟩ := hs.2.2.2 k hk
      have := hT.2.2.1
      dsimp only
      rw [fX7_canBe_L4, hs.2.2.1, if_neg (nI_ge hk (by omega)), nI_clamp (by omega), g2, g3, m_worksAt hT hc ha, bP_s, ix_ok (by omega) (by decide), ix_ok (by omega) (by decide), shr_ok (by omega) (by omega), wk_bit, nI_1, alr]
      rcases Bool.eq_false_or_eq_true (alr τ sw sb age k) with hp | hp
      · rw [hp, if_neg (by decide)]
        by_cases e : wd τ (sw k) age = sb k
        · rw [if_pos (by simp [g1, e])]
          simp [e]
          rfl
        · rw [if_neg (by simp [g1, b2i_inj, e]), show (wd τ (sw k) age == sb k) = false by simpa using e]
          rfl
      · rw [hp, if_pos (by rfl)]
        rfl)
  unfold fX7_canBe
  rw [L, b2_s, zb_b]
/-- how many, the first, the last of those below k -/
def lst (al : Nat → Bool) : Nat → Int32
  | 0 => -9
  | k + 1 => if cn k al = 0 ∧ al k = true then nI k else lst al k
def grt (al : Nat → Bool) : Nat → Int32
  | 0 => -9
  | k + 1 => if al k = true then nI k else grt al k
theorem lst_find (al : Nat → Bool) : ∀ k, (cn k al = 0 ↔ (List.range' 0 k).find? al = none) ∧ lst al k = (match (List.range' 0 k).find? al with | some i => nI i | none => -9)
  | 0 => ⟨by simp [cn], rfl⟩
  | k + 1 => by
    obtain ⟨h1, h2⟩ := lst_find al k
    have e : List.range' 0 (k + 1) = List.range' 0 k ++ [k] := by
      rw [List.range'_concat]
      simp
    rw [e, List.find?_append, cn, lst]
    cases hf : (List.range' 0 k).find? al with
    | none =>
      have h0 := h1.mpr hf
      rw [hf] at h2
      cases hp : al k with
      | true => simp [h0, hp]
      | false => simp [h0, hp, h2]
    | some i =>
      have h0 : cn k al ≠ 0 := fun q => by rw [h1.mp q] at hf; cases hf
      rw [hf] at h2
      simp [h0, h2]
theorem c_possible (hT : TI τ) (hc : CTt t Mc τ) (hs : SN Mc Md τ n sw sb) : fX6_possibleAges Mc = some (nI (cn 100 (fun a => alr τ sw sb a n))) := by
  have L : fX6_possibleAges_L4 Mc 50000 0 0 = some (nI (cn 100 (fun a => alr τ sw sb a n)), nI 100) :=
    loop_0u (fun m (q : Int32 × Int32) => fX6_possibleAges_L4 Mc m q.1 q.2) (fun k => (nI (cn k (fun a => alr τ sw sb a n)), nI k)) 100 _ (by omega)
    (fun m => by
      dsimp only
      rw [fX6_possibleAges_L4, if_pos (show (99 : Int32) < nI 100 by decide)])
    (fun m k hk => by
      dsimp only
      rw [fX6_possibleAges_L4, if_neg (show ¬ (99 : Int32) < nI k from nI_nlt (a := 99) (by omega) (by decide)), c_told hc.2.1 hc.1, gd_ok hc.1, c_allows hT hc hs (by omega), bP_s, cn, nI_1, nI_1]
      rcases Bool.eq_false_or_eq_true (alr τ sw sb k n) with hp | hp
      · rw [hp, if_neg (by decide), if_pos rfl]
      · rw [hp, if_pos (by rfl), if_neg (by decide)]
        rfl)
  unfold fX6_possibleAges
  rw [L]
  rfl
theorem c_least (hT : TI τ) (hc : CTt t Mc τ) (hs : SN Mc Md τ n sw sb) : fX6_leastAge Mc = some (lst (fun a => alr τ sw sb a n) 100) := by
  have L := loop_find (fun m (q : Int32) => fX6_leastAge_L2 Mc m q) (fun k => nI k) 100 (fun a => alr τ sw sb a n) (.inl (nI 100)) (fun k => .inr (nI k))
    (fun m => by rw [fX6_leastAge_L2, if_pos (show (99 : Int32) < nI 100 by decide)])
    (fun m k hk hp => by
      have hp : alr τ sw sb k n = true := hp
      rw [fX6_leastAge_L2, if_neg (show ¬ (99 : Int32) < nI k from nI_nlt (a := 99) (by omega) (by decide)), c_told hc.2.1 hc.1, gd_ok hc.1, c_allows hT hc hs (by omega), bP_s, hp, if_neg (by decide)])
    (fun m k hk hp => by
      have hp : alr τ sw sb k n = false := hp
      rw [fX6_leastAge_L2, if_neg (show ¬ (99 : Int32) < nI k from nI_nlt (a := 99) (by omega) (by decide)), c_told hc.2.1 hc.1, gd_ok hc.1, c_allows hT hc hs (by omega), bP_s, hp, if_pos (by rfl), nI_1])
    100 50000 0 rfl (by decide)
  have L' : fX6_leastAge_L2 Mc 50000 0 = _ := L
  unfold fX6_leastAge
  rw [L', (lst_find _ 100).2]
  cases (List.range' 0 100).find? (fun a => alr τ sw sb a n) with
  | none => rfl
  | some i => rfl
theorem c_greatest (hT : TI τ) (hc : CTt t Mc τ) (hs : SN Mc Md τ n sw sb) : fX6_greatestAge Mc = some (grt (fun a => alr τ sw sb a n) 100) := by
  have L : ∀ (k m : Nat), k ≤ 100 → k < m → bS (fX6_greatestAge_L3 Mc m (nI k - 1)) (fun o8 => (fun (w1 : Int32) => some (-9 : Int32)) o8) (fun o8 => some o8) = some (grt (fun a => alr τ sw sb a n) k) := by
    intro k
    induction k with
    | zero =>
      intro m _ hm
      obtain ⟨m', rfl⟩ : ∃ m', m = m' + 1 := ⟨m - 1, by omega⟩
      rw [fX6_greatestAge_L3, if_pos (show nI 0 - 1 < 0 by decide)]
      rfl
    | succ k ih =>
      intro m hk hm
      obtain ⟨m', rfl⟩ : ∃ m', m = m' + 1 := ⟨m - 1, by omega⟩
      rw [nI_pred, fX6_greatestAge_L3, if_neg (nI_pos (by omega)), c_told hc.2.1 hc.1, gd_ok hc.1, c_allows hT hc hs (by omega), bP_s, grt]
      rcases Bool.eq_false_or_eq_true (alr τ sw sb k n) with hp | hp
      · rw [hp, if_neg (by decide), if_pos rfl]
        rfl
      · rw [hp, if_pos (by rfl), if_neg (by decide), show nI k + (-1 : Int32) = nI k - 1 from (Int32.sub_eq_add_neg _ _).symm]
        exact ih m' (by omega) (by omega)
  have := L 100 50000 (Nat.le_refl _) (by decide)
  exact this
theorem m_ages (hT : TI τ) (hc : MTt Md τ) (hs : SN Mc Md τ n sw sb) : fX7_ages_L28 Md 50000 0 (-9) (-9) 0 = some (nI (cn 100 (fun a => alr τ sw sb a n)), lst (fun a => alr τ sw sb a n) 100, grt (fun a => alr τ sw sb a n) 100, nI 100) :=
  loop_0u (fun m (q : Int32 × Int32 × Int32 × Int32) => fX7_ages_L28 Md m q.1 q.2.1 q.2.2.1 q.2.2.2) (fun k => (nI (cn k (fun a => alr τ sw sb a n)), lst (fun a => alr τ sw sb a n) k, grt (fun a => alr τ sw sb a n) k, nI k)) 100 _ (by omega)
    (fun m => by
      dsimp only
      rw [fX7_ages_L28, if_pos (show (100 : Int32) ≤ nI 100 by decide)])
    (fun m k hk => by
      have hcn := cn_le (fun a => alr τ sw sb a n) k
      dsimp only
      rw [fX7_ages_L28, if_neg (show ¬ (100 : Int32) ≤ nI k from nI_ge (b := 100) hk (by decide)), m_canBe hT hc hs (by omega), bP_s, cn, nI_1, nI_1, lst, grt]
      rcases Bool.eq_false_or_eq_true (alr τ sw sb k n) with hp | hp
      · rw [hp, if_neg (by decide), if_pos rfl, if_pos rfl]
        by_cases h0 : cn k (fun a => alr τ sw sb a n) = 0
        · rw [h0, if_pos (by rfl), if_pos (by simp)]
        · rw [if_neg (nI_ne0 (by omega) (by omega)), if_neg (by simp [h0])]
      · rw [hp, if_pos (by rfl), if_neg (by decide), if_neg (by simp), if_neg (by decide)]
        rfl)
end AG
theorem R_ages {Mc Md : Mm} (h : Rel Mc Md) (p : Int32) : ∃ r Md', fX6_ages p Mc = some r ∧ fX7_ages p Md = some (r, Md') ∧ Rel Mc Md' := by
  obtain ⟨t, τ, μ, h⟩ := h
  have hz := h.z
  have hT := h.1.1
  obtain ⟨n, sw, sb, hs⟩ : ∃ n sw sb, SN Mc (wI Md 0 0 0) τ n sw sb := hz.2.2.2.2.2.1
  have ein : fX7_in p 0 2 = some (b2i (inB p 3)) := m_inB (B := 2) (by decide) p
  unfold fX6_ages fX7_ages
  rw [lt_eq, ein, bP_s, c_possible hT h.1.2.1 hs, c_least hT h.1.2.1 hs, c_greatest hT h.1.2.1 hs, m_ages hT hz.1.2.2.2 hs, b4_s]
  generalize wI Md 0 0 0 = Mz at *
  simp only [ofN, bP_s]
  rcases what_cases 3 (by decide) p with ⟨k, hk, rfl, hb⟩ | ⟨hb, hx⟩
  · rw [hb, if_neg (show ¬ b2i true = nI 0 by decide)]
    have : k = 0 ∨ k = 1 ∨ k = 2 := by omega
    rcases this with rfl | rfl | rfl <;> exact ⟨_, _, rfl, rfl, t, τ, μ, hz⟩
  · rw [hb, if_pos (show b2i false = nI 0 from rfl), if_neg (hx 0 (by decide)), if_neg (hx 1 (by decide)), if_neg (hx 2 (by decide))]
    exact ⟨_, _, rfl, rfl, t, τ, μ, hz⟩

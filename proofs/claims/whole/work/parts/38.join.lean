/-! ===== join: the set of fewest, of several the least ===== -/
def pcn (s : Nat) : Nat := cn 6 s.testBit
/-- of the numbers lo .. hi (hi not) that P holds of: the one of fewest bits, of several the least -/
def Bst (P : Nat → Bool) (lo hi : Nat) (o : Option Nat) : Prop := (o = none ∧ ∀ s, lo ≤ s → s < hi → P s = false) ∨ ∃ s, o = some s ∧ lo ≤ s ∧ s < hi ∧ P s = true ∧ ∀ x, lo ≤ x → x < hi → P x = true → pcn s < pcn x ∨ (pcn s = pcn x ∧ s ≤ x)
theorem Bst.uniq {P : Nat → Bool} {lo hi : Nat} {o o' : Option Nat} (h : Bst P lo hi o) (h' : Bst P lo hi o') : o = o' := by
  rcases h with ⟨rfl, h⟩ | ⟨s, rfl, h1, h2, h3, h4⟩ <;> rcases h' with ⟨rfl, g⟩ | ⟨z, rfl, g1, g2, g3, g4⟩
  · rfl
  · rw [h z g1 g2] at g3
    cases g3
  · rw [g s h1 h2] at h3
    cases h3
  · have a := h4 z g1 g2 g3
    have b := g4 s h1 h2 h3
    have : s = z := by omega
    rw [this]
/-- upwards from 1 -/
def bup (P : Nat → Bool) : Nat → Option Nat
  | 0 => none
  | k + 1 => match bup P k with
    | none => if P (k + 1) = true then some (k + 1) else none
    | some s => if pcn (k + 1) < pcn s ∧ P (k + 1) = true then some (k + 1) else some s
theorem bup_ok (P : Nat → Bool) : ∀ k, Bst P 1 (k + 1) (bup P k)
  | 0 => Or.inl ⟨rfl, fun s h1 h2 => absurd h1 (by omega)⟩
  | k + 1 => by
    rw [bup]
    rcases bup_ok P k with ⟨e, h⟩ | ⟨s, e, h1, h2, h3, h4⟩
    · rw [e]
      dsimp only
      by_cases hp : P (k + 1) = true
      · rw [if_pos hp]
        refine Or.inr ⟨k + 1, rfl, by omega, by omega, hp, fun x x1 x2 x3 => ?_⟩
        by_cases hx : x = k + 1
        · subst hx
          exact Or.inr ⟨rfl, Nat.le_refl _⟩
        · rw [h x x1 (by omega)] at x3
          cases x3
      · rw [if_neg hp]
        refine Or.inl ⟨rfl, fun x x1 x2 => ?_⟩
        by_cases hx : x = k + 1
        · subst hx
          simpa using hp
        · exact h x x1 (by omega)
    · rw [e]
      dsimp only
      by_cases hp : pcn (k + 1) < pcn s ∧ P (k + 1) = true
      · rw [if_pos hp]
        refine Or.inr ⟨k + 1, rfl, by omega, by omega, hp.2, fun x x1 x2 x3 => ?_⟩
        by_cases hx : x = k + 1
        · subst hx
          exact Or.inr ⟨rfl, Nat.le_refl _⟩
        · have := h4 x x1 (by omega) x3
          omega
      · rw [if_neg hp]
        refine Or.inr ⟨s, rfl, h1, by omega, h3, fun x x1 x2 x3 => ?_⟩
        by_cases hx : x = k + 1
        · subst hx
          have : ¬ pcn (k + 1) < pcn s := fun q => hp ⟨q, x3⟩
          omega
        · exact h4 x x1 (by omega) x3
/-- downwards from N - 1, j steps -/
def bdn (P : Nat → Bool) (N : Nat) : Nat → Option Nat
  | 0 => none
  | j + 1 => match bdn P N j with
    | none => if P (N - 1 - j) = true then some (N - 1 - j) else none
    | some s => if P (N - 1 - j) = true ∧ pcn (N - 1 - j) ≤ pcn s then some (N - 1 - j) else some s
theorem bdn_ok (P : Nat → Bool) (N : Nat) : ∀ j, j ≤ N - 1 → Bst P (N - j) N (bdn P N j)
  | 0, _ => Or.inl ⟨rfl, fun s h1 h2 => absurd h1 (by omega)⟩
  | j + 1, hj => by
    rw [bdn]
    rcases bdn_ok P N j (by omega) with ⟨e, h⟩ | ⟨s, e, h1, h2, h3, h4⟩
    · rw [e]
      dsimp only
      by_cases hp : P (N - 1 - j) = true
      · rw [if_pos hp]
        refine Or.inr ⟨N - 1 - j, rfl, by omega, by omega, hp, fun x x1 x2 x3 => ?_⟩
        by_cases hx : x = N - 1 - j
        · subst hx
          exact Or.inr ⟨rfl, Nat.le_refl _⟩
        · rw [h x (by omega) x2] at x3
          cases x3
      · rw [if_neg hp]
        refine Or.inl ⟨rfl, fun x x1 x2 => ?_⟩
        by_cases hx : x = N - 1 - j
        · subst hx
          simpa using hp
        · exact h x (by omega) x2
    · rw [e]
      dsimp only
      by_cases hp : P (N - 1 - j) = true ∧ pcn (N - 1 - j) ≤ pcn s
      · rw [if_pos hp]
        refine Or.inr ⟨N - 1 - j, rfl, by omega, by omega, hp.1, fun x x1 x2 x3 => ?_⟩
        by_cases hx : x = N - 1 - j
        · subst hx
          exact Or.inr ⟨rfl, Nat.le_refl _⟩
        · have := h4 x (by omega) x2 x3
          omega
      · rw [if_neg hp]
        refine Or.inr ⟨s, rfl, by omega, h2, h3, fun x x1 x2 x3 => ?_⟩
        by_cases hx : x = N - 1 - j
        · subst hx
          have : ¬ pcn (N - 1 - j) ≤ pcn s := fun q => hp ⟨x3, q⟩
          omega
        · exact h4 x (by omega) x2 x3
theorem bup_bdn (P : Nat → Bool) {N : Nat} (hN : 1 ≤ N) : bup P (N - 1) = bdn P N (N - 1) := by
  have h1 := bup_ok P (N - 1)
  have h2 := bdn_ok P N (N - 1) (Nat.le_refl _)
  rw [show N - 1 + 1 = N by omega] at h1
  rw [show N - (N - 1) = 1 by omega] at h2
  exact h1.uniq h2
theorem pcn_le (s : Nat) : pcn s ≤ 6 := cn_le _ 6
theorem bup_lt (P : Nat → Bool) (k : Nat) {s : Nat} (h : bup P k = some s) : s ≤ k := by
  rcases bup_ok P k with ⟨e, -⟩ | ⟨z, e, h1, h2, -⟩
  · rw [e] at h
    cases h
  · rw [e] at h
    cases h
    omega
theorem bdn_lt (P : Nat → Bool) (N j : Nat) (hj : j ≤ N - 1) {s : Nat} (h : bdn P N j = some s) : s < N := by
  rcases bdn_ok P N j hj with ⟨e, -⟩ | ⟨z, e, h1, h2, -⟩
  · rw [e] at h
    cases h
  · rw [e] at h
    cases h
    omega
def oI (o : Option Nat) : Int32 := match o with | none => -9 | some s => nI s
def oP (o : Option Nat) : Int32 := match o with | none => 7 | some s => nI (pcn s)
theorem pos_dec : ∀ s, s < 64 → s ≠ 0 → 0 < cn 6 s.testBit := by decide +kernel
theorem bit_lt2 {x n j : Nat} (h : x < 2 ^ n) (hb : x.testBit j = true) : j < n := by
  rcases Nat.lt_or_ge j n with q | q
  · exact q
  · have : 2 ^ n ≤ 2 ^ j := Nat.pow_le_pow_right (by decide) q
    rw [Nat.testBit_lt_two_pow (by omega)] at hb
    cases hb
theorem R_join {Mc Md : Mm} (h : Rel Mc Md) (p : Int32) : ∃ r Md', fX6_join p Mc = some r ∧ fX7_join p Md = some (r, Md') ∧ Rel Mc Md' := by
  obtain ⟨t, τ, μ, h⟩ := h
  have hz := h.z
  have hT := h.1.1
  have h6 := hT.1
  have hI := h.2.1.2.2
  have ein : fX7_in p 0 198 = some (b2i (inB p 199)) := m_inB (B := 198) (by decide) p
  have e0 : (wI Md 0 0 0).1 2 ((0 : Int32)).toNatClampNeg = nI (τ 0) := hz.1.2.2.2.1
  unfold fX6_join fX7_join
  rw [lt_eq, ein, bP_s, e0, s_bit 0 (τ 0) (by omega)]
  generalize wI Md 0 0 0 = Mz at *
  have hN : 1 ≤ 2 ^ τ 0 := Nat.pow_pos (by decide)
  have hN64 : 2 ^ τ 0 ≤ 64 := by
    have : 2 ^ τ 0 ≤ 2 ^ 6 := Nat.pow_le_pow_right (by decide) h6
    omega
  rcases isX_cases 199 (by decide) p with ⟨a, ha, rfl, hb⟩ | ⟨hb, hx⟩
  · rw [hb, if_neg (nI_pos (by omega)), if_pos (show nI a ≤ (198 : Int32) from nI_le (b := 198) (by omega) (by decide)), if_neg (show ¬ b2i true = 0 by decide)]
    have L1 : fX6_join_L22 (nI a) Mc 50000 (-9) 7 1 = some (oI (bup (fun s => decide (ageBy μ s = a)) (2 ^ τ 0 - 1)), oP (bup (fun s => decide (ageBy μ s = a)) (2 ^ τ 0 - 1)), nI (2 ^ τ 0 - 1 + 1)) :=
      loop_0u (fun n (q : Int32 × Int32 × Int32) => fX6_join_L22 (nI a) Mc n q.1 q.2.1 q.2.2) (fun k => (oI (bup (fun s => decide (ageBy μ s = a)) k), oP (bup (fun s => decide (ageBy μ s = a)) k), nI (k + 1))) (2 ^ τ 0 - 1) _ (by omega)
      (fun n => by
        dsimp only
        rw [fX6_join_L22, c_told h.1.2.1.2.1 h.1.2.1.1, gd_ok h.1.2.1.1, h.1.2.1.2.2.1, bit_ok (by omega), bP_s, if_pos (nI_le (by omega) (by omega))])
      (fun n k hk => by
        have hage := ageBy_le hI (k + 1)
        have hpk := pcn_le (k + 1)
        dsimp only
        rw [fX6_join_L22, c_told h.1.2.1.2.1 h.1.2.1.1, gd_ok h.1.2.1.1, h.1.2.1.2.2.1, bit_ok (by omega), bP_s, if_neg (nI_ge (by omega) (by omega)), pc_ok (by omega), bP_s, c_ageTogether h.2.1.1 (by omega) (fun j hj => bit_lt2 (by omega) hj) hI, bP_s, nI_1, bup, show cn 6 (k + 1).testBit = pcn (k + 1) from rfl]
        simp only [nI_eq (show ageBy μ (k + 1) < 2 ^ 31 by omega) (show a < 2 ^ 31 by omega)]
        cases hbk : bup (fun s => decide (ageBy μ s = a)) k with
        | none =>
          have : ¬ oP none ≤ nI (pcn (k + 1)) := nI_ge (b := 7) (by omega) (by decide)
          rw [if_neg this]
          dsimp only
          by_cases he : ageBy μ (k + 1) = a
          · rw [if_pos he, if_pos (by simp [he])]
            rfl
          · rw [if_neg he, if_neg (by simp [he])]
        | some s =>
          have hps := pcn_le s
          rw [show oP (some s) = nI (pcn s) from rfl]
          dsimp only
          by_cases hlt : pcn (k + 1) < pcn s
          · rw [if_neg (nI_ge hlt (by omega))]
            by_cases he : ageBy μ (k + 1) = a
            · rw [if_pos he, if_pos (by simp [he, hlt])]
              rfl
            · rw [if_neg he, if_neg (by simp [he])]
              rfl
          · rw [if_pos (nI_le (by omega) (by omega)), if_neg (by simp [hlt])]
            rfl)
    have L2 : fX7_join_L32 (nI a) Mz 50000 (-9) (nI (2 ^ τ 0) - 1) = some (oI (bdn (fun s => decide (ageBy μ s = a)) (2 ^ τ 0) (2 ^ τ 0 - 1)), nI (2 ^ τ 0 - 1 - (2 ^ τ 0 - 1))) := by
      rw [show (1 : Int32) = nI 1 from rfl, pk_sub hN]
      exact loop_0u (fun n (q : Int32 × Int32) => fX7_join_L32 (nI a) Mz n q.1 q.2) (fun j => (oI (bdn (fun s => decide (ageBy μ s = a)) (2 ^ τ 0) j), nI (2 ^ τ 0 - 1 - j))) (2 ^ τ 0 - 1) _ (by omega)
        (fun n => by
          dsimp only
          rw [fX7_join_L32, if_pos (show nI (2 ^ τ 0 - 1 - (2 ^ τ 0 - 1)) ≤ (0 : Int32) from nI_le (b := 0) (by omega) (by decide))])
        (fun n j hj => by
          have hs : 2 ^ τ 0 - 1 - j < 2 ^ τ 0 := by omega
          have hage := ageBy_le hI (2 ^ τ 0 - 1 - j)
          have hpk := pcn_le (2 ^ τ 0 - 1 - j)
          dsimp only
          rw [fX7_join_L32, if_neg (show ¬ nI (2 ^ τ 0 - 1 - j) ≤ (0 : Int32) from nI_ge (a := 0) (by omega) (by omega)), m_ageBy hT hz.1.2.2.2 hz.2.1.2.1 hI (by omega) (fun k hk => by
            rcases Nat.lt_or_ge k (τ 0) with h1 | h1
            · exact h1
            · have h2 : 2 ^ τ 0 ≤ 2 ^ k := Nat.pow_le_pow_right (by decide) h1
              rw [Nat.testBit_lt_two_pow (by omega)] at hk
              cases hk) (pos_dec _ (by omega) (by omega)), bP_s, show nI (2 ^ τ 0 - 1 - j) + (-1 : Int32) = nI (2 ^ τ 0 - 1 - (j + 1)) by
              rw [show 2 ^ τ 0 - 1 - j = (2 ^ τ 0 - 1 - (j + 1)) + 1 by omega]
              exact pk_m1 _, ones_ok (by omega), bP_s, bdn, show cn 6 (2 ^ τ 0 - 1 - j).testBit = pcn (2 ^ τ 0 - 1 - j) from rfl]
          simp only [nI_eq (show ageBy μ (2 ^ τ 0 - 1 - j) < 2 ^ 31 by omega) (show a < 2 ^ 31 by omega)]
          cases hbk : bdn (fun s => decide (ageBy μ s = a)) (2 ^ τ 0) j with
          | none =>
            rw [show oI none = -9 from rfl]
            dsimp only
            by_cases he : ageBy μ (2 ^ τ 0 - 1 - j) = a
            · rw [if_pos he, if_pos rfl, if_pos (by simp [he])]
              rfl
            · rw [if_neg he, if_neg (by simp [he])]
              rfl
          | some s =>
            have hps := pcn_le s
            have hsl := bdn_lt _ _ j (by omega) hbk
            rw [show oI (some s) = nI s from rfl]
            dsimp only
            by_cases he : ageBy μ (2 ^ τ 0 - 1 - j) = a
            · rw [if_pos he, if_neg (m9 (by omega)), ones_ok (by omega), bP_s, show cn 6 s.testBit = pcn s from rfl]
              by_cases hle : pcn (2 ^ τ 0 - 1 - j) ≤ pcn s
              · rw [if_neg (nI_nlt hle (by omega)), if_pos (by simp [he, hle])]
                rfl
              · rw [if_pos (nI_lt (by omega) (by omega)), if_neg (by simp [hle])]
                rfl
            · rw [if_neg he, if_neg (by simp [he])]
              rfl)
    rw [L1, L2, b3_s, b2_s, bup_bdn _ hN]
    exact ⟨_, _, rfl, rfl, t, τ, μ, hz⟩
  · rw [hb, if_pos (show b2i false = 0 by decide)]
    rcases hx with hx | ⟨hx, hy⟩
    · rw [if_pos hx]
      exact ⟨_, _, rfl, rfl, t, τ, μ, hz⟩
    · rw [if_neg hx, if_neg (show ¬ p ≤ (198 : Int32) from fun z => absurd ((le_pred (B := 198) (by decide)).mp z) (Int32.not_lt.mpr hy))]
      exact ⟨_, _, rfl, rfl, t, τ, μ, hz⟩

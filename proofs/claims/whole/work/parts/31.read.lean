/-! ===== what is told (τ), a moment (μ): as the class holds them, as the reference does ===== -/
def CT (o lo hi : Nat → Int32) (τ : Nat → Nat) : Prop := o 4 = nI (τ 0) ∧ o 5 = nI (τ 1) ∧ o 6 = nI (τ 2) ∧ o 7 = nI (τ 3) ∧ ∀ w, w < τ 2 → lo w = nI (τ (4 + w)) ∧ hi w = nI (τ (10 + w))
def MT (o lo hi : Nat → Int32) (τ : Nat → Nat) : Prop := o 0 = nI (τ 0) ∧ o 1 = nI (τ 1) ∧ o 2 = nI (τ 2) ∧ o 3 = nI (τ 3) ∧ ∀ w, w < τ 2 → lo w = nI (τ (4 + w)) ∧ hi w = nI (τ (10 + w))
def TI (τ : Nat → Nat) : Prop := τ 0 ≤ 6 ∧ (1 ≤ τ 1 ∧ τ 1 ≤ 6) ∧ τ 2 ≤ 5 ∧ (10 ≤ τ 3 ∧ τ 3 ≤ 99) ∧ ∀ w, w < τ 2 → τ (4 + w) ≤ 99 ∧ τ (10 + w) ≤ 99
def wd (τ : Nat → Nat) (w age : Nat) : Bool := decide (τ (4 + w) ≤ age) && decide (age ≤ τ (10 + w))
def jm (μ : Nat → Nat) (r : Nat) : Nat := mk 6 (fun k => μ (7 + k) == μ (7 + r))
def CMr (τ : Nat → Nat) (o od jn ag : Nat → Int32) (μ : Nat → Nat) : Prop := o 3 = nI (μ 0) ∧ o 4 = nI (μ 13) ∧ o 5 = nI (μ 14) ∧ (∀ r, r < 6 ∧ r < τ 0 → od r = nI (μ (1 + r))) ∧ (∀ r, r < 6 → jn r = nI (jm μ r)) ∧ ∀ c, c < 6 → (μ 14).testBit c = true → ag c = nI (μ (15 + c))
abbrev CM (τ : Nat → Nat) (a : Nat) (M : Mm) (μ : Nat → Nat) : Prop := CMr τ (M.1 a) (M.1 (a + 1)) (M.1 (a + 2)) (M.1 (a + 3)) μ
def MMr (s : Nat → Int32) (μ : Nat → Nat) : Prop := ∀ k, k < 21 → s k = nI (μ k)
/-- what always holds of a moment -/
def MI (τ μ : Nat → Nat) : Prop := μ 0 ≤ 99 ∧ (∀ r, r < 6 → μ (1 + r) ≤ 99 + μ 0) ∧ (∀ r, r < 6 → μ (7 + r) ≤ r ∧ μ (7 + μ (7 + r)) = μ (7 + r)) ∧ (∀ r, τ 0 ≤ r → r < 6 → μ (7 + r) = r) ∧
  (μ 13 < 64 ∧ ∀ c, (μ 13).testBit c = true → c < τ 1) ∧ (μ 14 < 64 ∧ ∀ c, (μ 14).testBit c = true → (μ 13).testBit c = true ∧ μ (15 + c) < τ 3) ∧ ∀ c, c < 6 → μ (15 + c) ≤ 300
def ageBy (μ : Nat → Nat) (set : Nat) : Nat := sm 6 (fun r => if set.testBit r = true then μ (1 + r) else 0) / cn 6 set.testBit
def ageOf (μ : Nat → Nat) (r : Nat) : Nat := ageBy μ (jm μ r)
theorem jm_lt (μ : Nat → Nat) (r : Nat) : jm μ r < 64 := mk_lt6 _ (by decide)
theorem MI_old {τ μ : Nat → Nat} (h : MI τ μ) {r : Nat} (hr : r < 6) : μ (1 + r) ≤ 198 := by
  have h1 := h.1
  have h2 := h.2.1 r hr
  omega
theorem sm_div {f : Nat → Nat} {p : Nat → Bool} {b : Nat} (h : ∀ k, k < 6 → f k ≤ b) (hz : ∀ k, k < 6 → p k = false → f k = 0) : ∀ n, n ≤ 6 → sm n f ≤ cn n p * b := by
  intro n
  induction n with
  | zero => intro _; simp [sm]
  | succ n ih =>
    intro hn
    have h1 := ih (by omega)
    rw [sm, cn]
    cases hp : p n with
    | true =>
      have := h n (by omega)
      rw [if_pos rfl, Nat.succ_mul]
      omega
    | false =>
      rw [hz n (by omega) hp, if_neg (by simp)]
      omega
theorem ageBy_le {τ μ : Nat → Nat} (h : MI τ μ) (set : Nat) : ageBy μ set ≤ 198 := by
  unfold ageBy
  have h1 := sm_div (f := fun r => if set.testBit r = true then μ (1 + r) else 0) (p := set.testBit) (b := 198) (fun k hk => by
    have := MI_old h hk
    split <;> omega) (fun k _ hp => by simp [hp]) 6 (Nat.le_refl _)
  by_cases h0 : cn 6 set.testBit = 0
  · rw [h0]; simp
  · exact Nat.le_trans (Nat.div_le_div_right h1) (by rw [Nat.mul_div_cancel_left _ (by omega)]; exact Nat.le_refl _)
theorem ageOf_le {τ μ : Nat → Nat} (h : MI τ μ) (r : Nat) : ageOf μ r ≤ 198 := ageBy_le h _
theorem MI_lab {τ μ : Nat → Nat} (hI : MI τ μ) {r k : Nat} (hr : r < τ 0) (hk : τ 0 ≤ k) (h6 : k < 6) : ¬ μ (7 + k) = μ (7 + r) := by
  have h1 := hI.2.2.2.1 k hk h6
  have h2 := (hI.2.2.1 r (by omega)).1
  omega
theorem jm_bit {τ μ : Nat → Nat} (hI : MI τ μ) {r k : Nat} (hr : r < τ 0) (h6 : τ 0 ≤ 6) (h : (jm μ r).testBit k = true) : k < τ 0 := by
  unfold jm at h
  rw [mk_bit] at h
  simp only [Bool.and_eq_true, decide_eq_true_eq, beq_iff_eq] at h
  rcases Nat.lt_or_ge k (τ 0) with h1 | h1
  · exact h1
  · exact absurd h.2 (MI_lab hI hr h1 h.1)
section CLS
variable {M : Mm} {τ μ : Nat → Nat} {a t : Nat}
theorem c_spans (hT : TI τ) (hc : CT (M.1 t) (M.1 (t + 2)) (M.1 (t + 3)) τ) {w age : Nat} (hw : w < τ 2) (ha : age < 2 ^ 30) : fX5_spans t (nI w) (nI age) M = some (b2i (wd τ w age)) := by
  obtain ⟨-, -, hk, -, hb⟩ := hT
  have h1 := (hc.2.2.2.2 w hw)
  have h2 := hb w hw
  unfold fX5_spans
  rw [ix_ok (by omega) (by decide), ix_ok (by omega) (by decide), nI_clamp (by omega), h1.1, h1.2]
  unfold wd b2i
  by_cases c1 : age < τ (4 + w)
  · rw [if_pos (nI_lt c1 (by omega))]
    simp [show ¬ τ (4 + w) ≤ age by omega]
  · rw [if_neg (nI_nlt (by omega) (by omega))]
    by_cases c2 : τ (10 + w) < age
    · rw [if_pos (nI_lt c2 (by omega))]
      simp [show ¬ age ≤ τ (10 + w) by omega]
    · rw [if_neg (nI_nlt (by omega) (by omega))]
      simp [show τ (4 + w) ≤ age by omega, show age ≤ τ (10 + w) by omega]
theorem c_does (hT : TI τ) (hc : CT (M.1 t) (M.1 (t + 2)) (M.1 (t + 3)) τ) {w age : Nat} (hw : w < τ 2) (ha : age < 2 ^ 30) : fX5_does t (nI w) (nI age) M = some (b2i (decide (age < τ 3) && wd τ w age)) := by
  have hl := hT.2.2.2.1
  unfold fX5_does
  rw [hc.2.2.2.1, c_spans hT hc hw ha, bP_s]
  by_cases c1 : τ 3 ≤ age
  · rw [if_pos (nI_le c1 (by omega))]
    simp [show ¬ age < τ 3 by omega, b2i]
  · rw [if_neg (nI_ge (by omega) (by omega))]
    cases h : wd τ w age <;> simp [show age < τ 3 by omega, b2i]
theorem c_worksAt (hT : TI τ) (hc : CT (M.1 t) (M.1 (t + 2)) (M.1 (t + 3)) τ) {age : Nat} (ha : age < 2 ^ 30) : fX5_worksAt t (nI age) M = some (nI (mk (τ 2) (fun w => decide (age < τ 3) && wd τ w age))) := by
  have hk := hT.2.2.1
  have L : fX5_worksAt_L4 t (nI age) M 50000 0 0 = some (nI (mk (τ 2) (fun w => decide (age < τ 3) && wd τ w age)), nI (τ 2)) :=
    loop_0u (fun n (q : Int32 × Int32) => fX5_worksAt_L4 t (nI age) M n q.1 q.2) (fun k => (nI (mk k (fun w => decide (age < τ 3) && wd τ w age)), nI k)) (τ 2) _ (by omega)
    (fun n => by
      dsimp only
      rw [fX5_worksAt_L4, hc.2.2.1, if_pos (nI_le (Nat.le_refl _) (by omega))])
    (fun n k hkk => by
      dsimp only
      rw [fX5_worksAt_L4, hc.2.2.1, if_neg (nI_ge hkk (by omega)), c_does hT hc hkk ha, bP_s]
      cases hp : (decide (age < τ 3) && wd τ k age) with
      | false => rw [if_pos (by rfl), nI_1, mk_no _ hp]
      | true => rw [if_neg (by decide), bit_ok (by omega), bP_s, or_ok (mk_lt6 _ (by omega)) (pow2_lt (by omega)), mk_or _ (by omega) hp, nI_1])
  unfold fX5_worksAt
  rw [L]
  rfl
theorem c_ageTogether (hm : CM τ a M μ) {set : Nat} (hs : set < 64) (hbb : ∀ k, set.testBit k = true → k < τ 0) (hI : MI τ μ) : fX1_ageTogether a (nI set) M = some (nI (ageBy μ set)) := by
  have hsum : ∀ k, k ≤ 6 → sm k (fun r => if set.testBit r = true then μ (1 + r) else 0) ≤ 6 * 198 := fun k hk => by
    have := sm_le (f := fun r => if set.testBit r = true then μ (1 + r) else 0) (b := 198) k (fun r hr => by
      have := MI_old hI (r := r) (by omega)
      split <;> omega)
    omega
  have hcn : ∀ k, cn k set.testBit ≤ k := fun k => cn_le _ k
  have L : fX1_ageTogether_L7 a (nI set) M 50000 0 0 0 = some (nI (sm 6 (fun r => if set.testBit r = true then μ (1 + r) else 0)), nI (cn 6 set.testBit), nI 6) :=
    loop_0u (fun n (q : Int32 × Int32 × Int32) => fX1_ageTogether_L7 a (nI set) M n q.1 q.2.1 q.2.2) (fun k => (nI (sm k (fun r => if set.testBit r = true then μ (1 + r) else 0)), nI (cn k set.testBit), nI k)) 6 _ (by omega)
    (fun n => by
      dsimp only
      rw [fX1_ageTogether_L7]
      simp only [ofN]
      rw [if_pos (nI_le (Nat.le_refl _) (by decide))])
    (fun n k hkk => by
      dsimp only
      rw [fX1_ageTogether_L7]
      simp only [ofN]
      rw [if_neg (nI_ge hkk (by decide)), has_ok hs hkk, bP_s, sm, cn, ix_ok hkk (by decide), nI_clamp (by omega)]
      rcases Bool.eq_false_or_eq_true (set.testBit k) with hp | hp
      · rw [hm.2.2.2.1 k ⟨hkk, hbb k hp⟩]
        simp only [nI_add, hp]
        simp [b2i_t, n10]
      · simp only [nI_add, hp]
        simp [b2i_f])
  unfold fX1_ageTogether
  rw [L, b3_s]
  unfold ageBy
  by_cases h0 : cn 6 set.testBit = 0
  · rw [h0, if_pos (by rfl)]
    simp
    rfl
  · rw [if_neg (nI_ne0 (by omega) (by have := hcn 6; omega)), nz_ok (by omega) (by have := hcn 6; omega), pk_div (by have := hsum 6 (Nat.le_refl _); omega) (by omega) (by have := hcn 6; omega)]
theorem c_ageOfRoom (hT : TI τ) (hm : CM τ a M μ) (hI : MI τ μ) {r : Nat} (hr0 : r < τ 0) : fX1_ageOfRoom a (nI r) M = some (nI (ageOf μ r)) := by
  have h6 := hT.1
  have hr : r < 6 := by omega
  unfold fX1_ageOfRoom
  rw [ix_ok hr (by decide), nI_clamp (by omega), hm.2.2.2.2.1 r hr, c_ageTogether hm (jm_lt μ r) (fun k h => jm_bit hI hr0 h6 h) hI, bP_s]
  rfl

/-- x is the number of one of B things -/
def inB (x : Int32) (B : Nat) : Bool := decide (0 ≤ x) && decide (x < nI B)
theorem c_isX {B : Nat} (hB : B ≤ 6) {x : Int32} : (if x < 0 then some 0 else (if nI B ≤ x then some (0 : Int32) else some 1)) = some (b2i (inB x B)) := by
  by_cases h : x < 0
  · rw [if_pos h]
    simp [inB, b2i, Int32.not_le.mpr h]
  · rw [if_neg h]
    by_cases h2 : nI B ≤ x
    · rw [if_pos h2]
      simp [inB, b2i, h2]
    · rw [if_neg h2]
      simp [inB, b2i, Int32.not_lt.mp h, Int32.not_le.mp h2]
/-- x as the number of one of B things -/
theorem isX_cases (B : Nat) (hB : B ≤ 1000) (x : Int32) : (∃ k, k < B ∧ x = nI k ∧ (inB x B) = true) ∨ ((inB x B) = false ∧ (x < 0 ∨ (¬ x < 0 ∧ nI B ≤ x))) := by
  rcases i32 x with h | ⟨k, hk, rfl⟩
  · exact Or.inr ⟨by simp [inB, Int32.not_le.mpr h], Or.inl h⟩
  · by_cases h : k < B
    · exact Or.inl ⟨k, h, rfl, by simp [inB, nI_pos' hk, nI_lt h (by omega)]⟩
    · exact Or.inr ⟨by simp [inB, nI_nlt (Nat.not_lt.mp h) hk], Or.inr ⟨nI_pos hk, nI_le (Nat.not_lt.mp h) hk⟩⟩
theorem c_told (h7 : M.1 0 7 = nI t) (ht : isT t = true) : (M.1 0 7).toNatClampNeg = t := by
  rw [h7, nI_clamp]
  have := (isT_ok ht).1.1
  omega
/-- the class's now: what was told lies at t -/
abbrev CTt (t : Nat) (M : Mm) (τ : Nat → Nat) : Prop := isT t = true ∧ M.1 0 7 = nI t ∧ CT (M.1 t) (M.1 (t + 2)) (M.1 (t + 3)) τ
theorem c_isRoom (hT : TI τ) (hc : CTt t M τ) (x : Int32) : fX6_isRoom x M = some (b2i (inB x (τ 0))) := by
  unfold fX6_isRoom
  rw [c_told hc.2.1 hc.1, gd_ok hc.1, hc.2.2.1]
  exact c_isX hT.1
theorem c_isMother (hT : TI τ) (hc : CTt t M τ) (x : Int32) : fX6_isMother x M = some (b2i (inB x (τ 1))) := by
  unfold fX6_isMother
  rw [c_told hc.2.1 hc.1, gd_ok hc.1, hc.2.2.2.1]
  exact c_isX hT.2.1.2
theorem c_isWork (hT : TI τ) (hc : CTt t M τ) (x : Int32) : fX6_isWork x M = some (b2i (inB x (τ 2))) := by
  unfold fX6_isWork
  rw [c_told hc.2.1 hc.1, gd_ok hc.1, hc.2.2.2.2.1]
  exact c_isX (by have := hT.2.2.1; omega)
/-- which works one of that age can do, whatever LIFE is -/
def wk (τ : Nat → Nat) (age : Nat) : Nat := mk (τ 2) (fun w => wd τ w age)
def wof (τ μ : Nat → Nat) (c : Nat) : Nat := if (μ 14).testBit c = true then wk τ (μ (15 + c)) else 0
theorem wk_lt {τ : Nat → Nat} (hT : TI τ) (age : Nat) : wk τ age < 32 := Nat.lt_of_lt_of_le (mk_lt _ _) (by
  have : 2 ^ τ 2 ≤ 2 ^ 5 := Nat.pow_le_pow_right (by decide) hT.2.2.1
  omega)
theorem wof_lt {τ : Nat → Nat} (hT : TI τ) (μ : Nat → Nat) (c : Nat) : wof τ μ c < 32 := by
  unfold wof
  split
  · exact wk_lt hT _
  · decide
theorem c_worksOfChild (hT : TI τ) (hc : CTt t M τ) (hm : CM τ 3 M μ) (hI : MI τ μ) {c : Nat} (h6 : c < 6) : fX6_worksOfChild (nI c) M = some (nI (wof τ μ c)) := by
  unfold fX6_worksOfChild wof
  rw [hm.2.2.1, has_ok hI.2.2.2.2.2.1.1 h6, bP_s, c_told hc.2.1 hc.1, gd_ok hc.1, ix_ok h6 (by decide), nI_clamp (by omega)]
  cases hp : (μ 14).testBit c with
  | false => rfl
  | true =>
    have hl := (hI.2.2.2.2.2.1.2 c hp).2
    have h3 := hT.2.2.2.1.2
    rw [if_neg (by decide), show M.1 6 c = nI (μ (15 + c)) from hm.2.2.2.2.2 c h6 hp, c_worksAt hT hc.2.2 (by omega), bP_s, if_pos rfl]
    simp [hl, wk]
end CLS
section MOD
variable {M : Mm} {τ μ : Nat → Nat}
theorem m_in {a b c : Nat} (ha : a < 2 ^ 31) (hb : b < 2 ^ 31) (hc : c < 2 ^ 31) : fX7_in (nI a) (nI b) (nI c) = some (b2i (decide (b ≤ a) && decide (a ≤ c))) := by
  unfold fX7_in b2i
  by_cases c1 : a < b
  · rw [if_pos (nI_lt c1 hb)]
    simp [show ¬ b ≤ a by omega]
  · rw [if_neg (nI_nlt (by omega) ha)]
    by_cases c2 : c < a
    · rw [if_pos (nI_lt c2 ha)]
      simp [show ¬ a ≤ c by omega]
    · rw [if_neg (nI_nlt (by omega) hc)]
      simp [show b ≤ a by omega, show a ≤ c by omega]
/-- in(x, 0, B - 1) -/
theorem m_in0 {B : Nat} (hB : B ≤ 1000) (x : Int32) : fX7_in x 0 (nI B - 1) = some (b2i (inB x B)) := by
  unfold fX7_in b2i
  rcases i32 x with h | ⟨k, hk, rfl⟩
  · rw [if_pos h]
    simp [inB, Int32.not_le.mpr h]
  · rw [if_neg (nI_pos hk)]
    have e : nI B - 1 < nI k ↔ B ≤ k := by
      rw [Int32.lt_iff_toInt_lt, show (1 : Int32) = nI 1 from rfl, pk_sub_toInt (by omega) (by omega), nI_toInt hk]
      omega
    by_cases c : B ≤ k
    · rw [if_pos (e.mpr c)]
      simp [inB, nI_nlt c hk]
    · rw [if_neg (fun q => c (e.mp q))]
      simp [inB, nI_pos' hk, nI_lt (Nat.not_le.mp c) (by omega)]
theorem m_inB {B : Nat} (hB : B ≤ 900) (x : Int32) : fX7_in x 0 (nI B) = some (b2i (inB x (B + 1))) := by
  have := m_in0 (B := B + 1) (by omega) x
  rw [show nI (B + 1) - 1 = nI B from nI_pred B] at this
  exact this
abbrev MTt (M : Mm) (τ : Nat → Nat) : Prop := MT (M.1 2) (M.1 4) (M.1 5) τ
theorem m_isRoom (hT : TI τ) (hc : MTt M τ) (x : Int32) : fX7_isRoom x M = some (b2i (inB x (τ 0))) := by
  unfold fX7_isRoom
  rw [show M.1 2 ((0 : Int32)).toNatClampNeg = nI (τ 0) from hc.1, m_in0 (by have := hT.1; omega), bP_s, zb_b]
theorem m_isChild (hT : TI τ) (hc : MTt M τ) (x : Int32) : fX7_isChild x M = some (b2i (inB x (τ 1))) := by
  unfold fX7_isChild
  rw [show M.1 2 ((1 : Int32)).toNatClampNeg = nI (τ 1) from hc.2.1, m_in0 (by have := hT.2.1; omega), bP_s, zb_b]
theorem m_isWork (hT : TI τ) (hc : MTt M τ) (x : Int32) : fX7_isWork x M = some (b2i (inB x (τ 2))) := by
  unfold fX7_isWork
  rw [show M.1 2 ((2 : Int32)).toNatClampNeg = nI (τ 2) from hc.2.2.1, m_in0 (by have := hT.2.2.1; omega), bP_s, zb_b]
theorem m_worksAt (hT : TI τ) (hc : MTt M τ) {age : Nat} (ha : age < 2 ^ 30) : fX7_worksAt (nI age) M = some (nI (wk τ age)) := by
  have hk := hT.2.2.1
  have h2 : M.1 2 ((2 : Int32)).toNatClampNeg = nI (τ 2) := hc.2.2.1
  have L : fX7_worksAt_L4 (nI age) M 50000 0 0 = some (nI (mk (τ 2) (fun w => wd τ w age)), nI (τ 2)) :=
    loop_0u (fun n (q : Int32 × Int32) => fX7_worksAt_L4 (nI age) M n q.1 q.2) (fun k => (nI (mk k (fun w => wd τ w age)), nI k)) (τ 2) _ (by omega)
    (fun n => by
      dsimp only
      rw [fX7_worksAt_L4, h2, if_pos (nI_le (Nat.le_refl _) (by omega))])
    (fun n k hkk => by
      have hb := hT.2.2.2.2 k hkk
      have hw := hc.2.2.2.2 k hkk
      dsimp only
      rw [fX7_worksAt_L4, h2, if_neg (nI_ge hkk (by omega)), ix_ok (by omega) (by decide), ix_ok (by omega) (by decide), nI_clamp (by omega), hw.1, hw.2, m_in (by omega) (by omega) (by omega), bP_s]
      have e : (decide (τ (4 + k) ≤ age) && decide (age ≤ τ (10 + k))) = wd τ k age := rfl
      rw [e, s_bit 0 k (by omega)]
      cases hp : wd τ k age with
      | false => rw [if_pos (by rfl), nI_1, ← mk_no (fun w => wd τ w age) hp, show (0 : Int32) = nI 0 from rfl, or_ok (mk_lt6 _ (by omega)) (by decide), Nat.or_zero]
      | true => rw [if_neg (by decide), or_ok (mk_lt6 _ (by omega)) (pow2_lt (by omega)), mk_or (fun w => wd τ w age) (by omega) hp, nI_1])
  unfold fX7_worksAt
  rw [L]
  rfl
theorem m_worksOf (hT : TI τ) (hc : MTt M τ) (hm : MMr (M.1 6) μ) (hI : MI τ μ) {c : Nat} (h6 : c < 6) : fX7_worksOf (nI c) M = some (nI (wof τ μ c)) := by
  unfold fX7_worksOf wof
  rw [show M.1 6 ((14 : Int32)).toNatClampNeg = nI (μ 14) from hm 14 (by decide), mhas_ok hI.2.2.2.2.2.1.1 h6, bP_s, show (15 : Int32) = nI 15 from rfl, nI_add, ix_ok (by omega) (by decide), nI_clamp (by omega), hm (15 + c) (by omega), m_worksAt hT hc (by have := hI.2.2.2.2.2.2 c h6; omega), bP_s]
  cases hp : (μ 14).testBit c with
  | false => rfl
  | true => rw [if_neg (by decide), if_pos rfl]
end MOD

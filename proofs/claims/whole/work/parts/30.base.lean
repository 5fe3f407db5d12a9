/-! ===== numbers: what the pure functions do on small numbers ===== -/
theorem ofN (n : Nat) : (OfNat.ofNat n : Int32) = nI n := Int32.toInt_inj.mp rfl
theorem nI0 : (0 : Int32) = nI 0 := rfl
theorem ix_ok {α : Type} {k n : Nat} {x : Option α} (h : k < n) (hn : n < 2 ^ 31) : ix (nI k) n x = x := by
  unfold ix
  rw [if_neg (nI_in h hn)]
theorem nz_ok {α : Type} {k : Nat} {x : Option α} (h : 0 < k) (hn : k < 2 ^ 31) : nz (nI k) x = x := by
  unfold nz
  rw [if_neg (nI_ne0 h hn)]
theorem zb_0 {α : Type} {x : Option α} : zb 0 x = x := if_pos (Or.inl rfl)
theorem zb_1 {α : Type} {x : Option α} : zb 1 x = x := if_pos (Or.inr rfl)
def b2i (b : Bool) : Int32 := if b = true then 1 else 0
theorem zb_b {α : Type} {b : Bool} {x : Option α} : zb (b2i b) x = x := by cases b <;> rfl
theorem b2i_0 {b : Bool} : b2i b = 0 ↔ b = false := by cases b <;> decide
theorem b2i_1 {b : Bool} : b2i b = 1 ↔ b = true := by cases b <;> decide
theorem gd_ok {α : Type} {b : Bool} {x : Option α} (h : b = true) : gd b x = x := if_pos h
theorem lt_eq {α β : Type} (x : α) (f : α → β) : lt x f = f x := rfl
theorem bP_s {α β : Type} (x : α) (k : α → Option β) : bP (some x) k = k x := rfl
theorem b2_s {α β γ : Type} (x : α) (y : β) (k : α → β → Option γ) : b2 (some (x, y)) k = k x y := rfl
theorem b3_s {α β γ δ : Type} (x : α) (y : β) (z : γ) (k : α → β → γ → Option δ) : b3 (some (x, y, z)) k = k x y z := rfl
theorem b4_s {α β γ δ ε : Type} (x : α) (y : β) (z : γ) (w : δ) (k : α → β → γ → δ → Option ε) : b4 (some (x, y, z, w)) k = k x y z w := rfl
theorem bS_l {α β γ : Type} (x : α) (k : α → Option γ) (k2 : β → Option γ) : bS (some (.inl x)) k k2 = k x := rfl
theorem bS_r {α β γ : Type} (x : β) (k : α → Option γ) (k2 : β → Option γ) : bS (some (.inr x)) k k2 = k2 x := rfl
theorem wI_v (M : Mm) (a k : Nat) (v : Int32) : (wI M a k v).1 a k = v := by simp [wI]
theorem wI_k (M : Mm) (a k : Nat) (v : Int32) {j : Nat} (h : j ≠ k) : (wI M a k v).1 a j = M.1 a j := by simp [wI, h]
theorem wI_a (M : Mm) (a k : Nat) (v : Int32) {b : Nat} (h : b ≠ a) : (wI M a k v).1 b = M.1 b := by
  funext j
  simp [wI, h]
theorem wI_row (M : Mm) (a k : Nat) (v : Int32) : (wI M a k v).1 a = upd (M.1 a) k v := by
  rw [wI_wA]
  simp [wA]
theorem wI_2 (M : Mm) (a k : Nat) (v : Int32) : (wI M a k v).2 = M.2 := rfl
theorem wL_1 (M : Mm) (v : Int64) : (wL M v).1 = M.1 := rfl
theorem wL_2 (M : Mm) (v : Int64) : (wL M v).2 = v := rfl
theorem wA_a (M : Mm) (a : Nat) (f : Nat → Int32) {b : Nat} (h : b ≠ a) : (wA M a f).1 b = M.1 b := by simp [wA, h]
theorem wA_v (M : Mm) (a : Nat) (f : Nat → Int32) : (wA M a f).1 a = f := by simp [wA]
theorem wA_2 (M : Mm) (a : Nat) (f : Nat → Int32) : (wA M a f).2 = M.2 := rfl
theorem upd_s (f : Nat → Int32) (k : Nat) (v : Int32) : upd f k v k = v := by simp [upd]
theorem upd_n (f : Nat → Int32) {k j : Nat} (v : Int32) (h : j ≠ k) : upd f k v j = f j := by simp [upd, h]
/-- what comes in as a number: below 0, or a number -/
theorem i32 (x : Int32) : x < 0 ∨ ∃ k : Nat, k < 2 ^ 31 ∧ x = nI k := by
  by_cases h : x < 0
  · exact Or.inl h
  · exact Or.inr (nI_of h)
theorem m9 {k : Nat} (h : k < 2 ^ 31) : ¬ nI k = (-9 : Int32) := by
  intro e
  have h1 : (nI k).toInt = (-9 : Int32).toInt := by rw [e]
  rw [nI_toInt h] at h1
  have h2 : (-9 : Int32).toInt = -9 := by decide
  omega
theorem m9le {k : Nat} (h : k < 2 ^ 31) : (-9 : Int32) < nI k := by
  rw [Int32.lt_iff_toInt_lt, nI_toInt h]
  have h2 : (-9 : Int32).toInt = -9 := by decide
  omega
theorem neg_lt {x : Int32} (h : x < 0) {k : Nat} (hk : k < 2 ^ 31) : x < nI k := by
  rw [Int32.lt_iff_toInt_lt] at h ⊢
  rw [nI_toInt hk]
  have h2 : (0 : Int32).toInt = 0 := by decide
  omega
theorem neg_nle {x : Int32} (h : x < 0) {k : Nat} (hk : k < 2 ^ 31) : ¬ nI k ≤ x := by
  intro h1
  exact absurd (neg_lt h hk) (by
    rw [Int32.not_lt]
    exact h1)
theorem sub_lt {a b k : Nat} (ha : a < 2 ^ 30) (hb : b < 2 ^ 30) (hk : k < 2 ^ 30) : nI a - nI b < nI k ↔ a < k + b := by
  rw [Int32.lt_iff_toInt_lt, pk_sub_toInt ha hb, nI_toInt (by omega)]
  omega
theorem sub_le {a b k : Nat} (ha : a < 2 ^ 30) (hb : b < 2 ^ 30) (hk : k < 2 ^ 30) : nI a - nI b ≤ nI k ↔ a ≤ k + b := by
  rw [Int32.le_iff_toInt_le, pk_sub_toInt ha hb, nI_toInt (by omega)]
  omega
theorem nI_ltm1 {a b : Nat} (ha : a < 2 ^ 30) (hb : b < 2 ^ 30) : nI b - nI 1 < nI a ↔ b < a + 1 := sub_lt hb (by decide) ha
/-! loops that count up -/
theorem loop_up {σ β : Type} (f : Nat → σ → Option β) (st : Nat → σ) (B : Nat) (out : β) (hend : ∀ n, f (n + 1) (st B) = some out) (hs : ∀ n k, k < B → f (n + 1) (st k) = f n (st (k + 1))) : ∀ (j n k : Nat), k + j = B → j < n → f n (st k) = some out := by
  intro j
  induction j with
  | zero =>
    intro n k hk hn
    obtain ⟨n', rfl⟩ : ∃ n', n = n' + 1 := ⟨n - 1, by omega⟩
    have : k = B := by omega
    subst this
    exact hend n'
  | succ j ih =>
    intro n k hk hn
    obtain ⟨n', rfl⟩ : ∃ n', n = n' + 1 := ⟨n - 1, by omega⟩
    rw [hs n' k (by omega)]
    exact ih n' (k + 1) (by omega) (by omega)
theorem loop_0u {σ β : Type} (f : Nat → σ → Option β) (st : Nat → σ) (B : Nat) (out : β) {n : Nat} (hn : B < n) (hend : ∀ n, f (n + 1) (st B) = some out) (hs : ∀ n k, k < B → f (n + 1) (st k) = f n (st (k + 1))) : f n (st 0) = some out :=
  loop_up f st B out hend hs B n 0 (by omega) hn
/-- a loop that looks for the first: at k < B with p k it answers hit k; if there is none it ends with out -/
theorem loop_find {σ β : Type} (f : Nat → σ → Option β) (st : Nat → σ) (B : Nat) (p : Nat → Bool) (out : β) (hit : Nat → β) (hend : ∀ n, f (n + 1) (st B) = some out) (hh : ∀ n k, k < B → p k = true → f (n + 1) (st k) = some (hit k)) (hs : ∀ n k, k < B → p k = false → f (n + 1) (st k) = f n (st (k + 1))) :
    ∀ (j n k : Nat), k + j = B → j < n → f n (st k) = some (match (List.range' k j).find? p with | some i => hit i | none => out) := by
  intro j
  induction j with
  | zero =>
    intro n k hk hn
    obtain ⟨n', rfl⟩ : ∃ n', n = n' + 1 := ⟨n - 1, by omega⟩
    have : k = B := by omega
    subst this
    rw [hend n']
    rfl
  | succ j ih =>
    intro n k hk hn
    obtain ⟨n', rfl⟩ : ∃ n', n = n' + 1 := ⟨n - 1, by omega⟩
    rw [List.range'_succ, List.find?_cons]
    cases hp : p k with
    | true => rw [hh n' k (by omega) hp]
    | false =>
      rw [hs n' k (by omega) hp]
      exact ih n' (k + 1) (by omega) (by omega)
/-! sets of at most six: numbers below 64 -/
def mk : Nat → (Nat → Bool) → Nat
  | 0, _ => 0
  | n + 1, p => mk n p + (if p n = true then 2 ^ n else 0)
def cn : Nat → (Nat → Bool) → Nat
  | 0, _ => 0
  | n + 1, p => cn n p + (if p n = true then 1 else 0)
def sm : Nat → (Nat → Nat) → Nat
  | 0, _ => 0
  | n + 1, f => sm n f + f n
theorem mk_lt (p : Nat → Bool) : ∀ n, mk n p < 2 ^ n
  | 0 => by simp [mk]
  | n + 1 => by
    have := mk_lt p n
    rw [mk, Nat.pow_succ]
    split <;> omega
theorem mk_lt6 (p : Nat → Bool) {n : Nat} (h : n ≤ 6) : mk n p < 64 := Nat.lt_of_lt_of_le (mk_lt p n) (by
  have : 2 ^ n ≤ 2 ^ 6 := Nat.pow_le_pow_right (by decide) h
  omega)
theorem mk_bit (p : Nat → Bool) : ∀ n k, (mk n p).testBit k = (decide (k < n) && p k)
  | 0, k => by simp [mk]
  | n + 1, k => by
    have hlt := mk_lt p n
    have ih := mk_bit p n
    rw [mk]
    by_cases hp : p n = true
    · rw [if_pos hp, Nat.add_comm]
      rcases Nat.lt_trichotomy k n with h | h | h
      · rw [Nat.testBit_two_pow_add_gt h, ih k]
        simp [h, Nat.lt_succ_of_lt h]
      · subst h
        rw [Nat.testBit_two_pow_add_eq, Nat.testBit_lt_two_pow hlt]
        simp [hp]
      · have h1 : 2 ^ n + mk n p < 2 ^ (n + 1) := by rw [Nat.pow_succ]; omega
        have h2 : 2 ^ (n + 1) ≤ 2 ^ k := Nat.pow_le_pow_right (by decide) h
        rw [Nat.testBit_lt_two_pow (Nat.lt_of_lt_of_le h1 h2)]
        simp
        omega
    · rw [if_neg hp, Nat.add_zero, ih k]
      by_cases h1 : k < n
      · simp [h1, Nat.lt_succ_of_lt h1]
      · by_cases h2 : k = n
        · subst h2
          simp [hp]
        · simp [h1, show ¬ k < n + 1 by omega]
theorem mk_ext {n : Nat} {p q : Nat → Bool} (h : ∀ k, k < n → p k = q k) : mk n p = mk n q := by
  induction n with
  | zero => rfl
  | succ n ih => rw [mk, mk, ih (fun k hk => h k (by omega)), h n (by omega)]
theorem cn_ext {n : Nat} {p q : Nat → Bool} (h : ∀ k, k < n → p k = q k) : cn n p = cn n q := by
  induction n with
  | zero => rfl
  | succ n ih => rw [cn, cn, ih (fun k hk => h k (by omega)), h n (by omega)]
theorem sm_ext {n : Nat} {p q : Nat → Nat} (h : ∀ k, k < n → p k = q k) : sm n p = sm n q := by
  induction n with
  | zero => rfl
  | succ n ih => rw [sm, sm, ih (fun k hk => h k (by omega)), h n (by omega)]
theorem cn_le (p : Nat → Bool) : ∀ n, cn n p ≤ n
  | 0 => Nat.le_refl _
  | n + 1 => by
    have := cn_le p n
    rw [cn]
    split <;> omega
theorem sm_le {f : Nat → Nat} {b : Nat} : ∀ n, (∀ k, k < n → f k ≤ b) → sm n f ≤ n * b
  | 0, _ => Nat.zero_le _
  | n + 1, h => by
    have h1 := sm_le n (fun k hk => h k (by omega))
    have h2 := h n (by omega)
    rw [sm, Nat.succ_mul]
    omega

theorem bits_ext {a b : Nat} (ha : a < 64) (hb : b < 64) (h : ∀ k, k < 6 → a.testBit k = b.testBit k) : a = b := by
  apply Nat.eq_of_testBit_eq
  intro i
  by_cases hi : i < 6
  · exact h i hi
  · have e : 64 ≤ 2 ^ i := by
      have : 2 ^ 6 ≤ 2 ^ i := Nat.pow_le_pow_right (by decide) (by omega)
      omega
    rw [Nat.testBit_lt_two_pow (by omega), Nat.testBit_lt_two_pow (by omega)]
theorem bit_ge {a k : Nat} (ha : a < 64) (h : a.testBit k = true) : k < 6 := by
  rcases Nat.lt_or_ge k 6 with h1 | h1
  · exact h1
  · have e : 64 ≤ 2 ^ k := by
      have : 2 ^ 6 ≤ 2 ^ k := Nat.pow_le_pow_right (by decide) h1
      omega
    rw [Nat.testBit_lt_two_pow (by omega)] at h
    cases h
theorem s_bit (k : Nat) : ∀ k, k < 7 → (1 : Int32) <<< (nI k &&& 31) = nI (2 ^ k) := by decide +kernel
theorem s_bitn {k : Nat} (h : k < 7) : nI 1 <<< (nI k &&& nI 31) = nI (2 ^ k) := s_bit 0 k h
theorem bit_ok {k : Nat} (h : k < 7) : fX6_bit (nI k) = some (nI (2 ^ k)) := by
  unfold fX6_bit
  rw [s_bit 0 k h]
theorem shr_n_ : True := trivial
theorem has_dec : ∀ m, m < 64 → ∀ k, k < 6 → fX6_has (nI m) (nI k) = some (b2i (m.testBit k)) := by decide +kernel
theorem has_ok {m k : Nat} (h : m < 64) (hk : k < 6) : fX6_has (nI m) (nI k) = some (b2i (m.testBit k)) := has_dec m h k hk
theorem mhas_dec : ∀ m, m < 64 → ∀ k, k < 6 → fX7_has (nI m) (nI k) = some (b2i (m.testBit k)) := by decide +kernel
theorem mhas_ok {m k : Nat} (h : m < 64) (hk : k < 6) : fX7_has (nI m) (nI k) = some (b2i (m.testBit k)) := mhas_dec m h k hk
theorem shr_dec : ∀ m, m < 64 → ∀ k, k < 6 → (nI m >>> (nI k &&& 31)) &&& 1 = b2i (m.testBit k) := by decide +kernel
theorem shr_ok {m k : Nat} (h : m < 64) (hk : k < 6) : (nI m >>> (nI k &&& 31)) &&& 1 = b2i (m.testBit k) := shr_dec m h k hk
theorem or_dec : ∀ a, a < 64 → ∀ b, b < 64 → nI a ||| nI b = nI (a ||| b) := by decide +kernel
theorem or_ok {a b : Nat} (ha : a < 64) (hb : b < 64) : nI a ||| nI b = nI (a ||| b) := or_dec a ha b hb
theorem or_lt {a b : Nat} (ha : a < 64) (hb : b < 64) : a ||| b < 64 := Nat.or_lt_two_pow (n := 6) ha hb
/-- without k -/
def wo (a k : Nat) : Nat := mk 6 (fun i => a.testBit i && decide (i ≠ k))
theorem wo_dec : ∀ a, a < 64 → ∀ k, k < 6 → nI a &&& (nI (2 ^ k) ^^^ (-1)) = nI (wo a k) := by decide +kernel
theorem wo_ok {a k : Nat} (ha : a < 64) (hk : k < 6) : nI a &&& (nI (2 ^ k) ^^^ (-1)) = nI (wo a k) := wo_dec a ha k hk
theorem and_m1 (x : Int32) : x &&& (-1 : Int32) = x := by
  have : (-1 : Int32) = ~~~0 := by decide
  rw [this]
  simp
theorem pc_dec : ∀ m, m < 64 → fJ6_bitCount_0f7a4 (nI m) = some (nI (cn 6 m.testBit)) := by decide +kernel
theorem ones_dec : ∀ m, m < 64 → fX7_ones (nI m) = some (nI (cn 6 m.testBit)) := by decide +kernel
theorem pc_ok {m : Nat} (h : m < 64) : fJ6_bitCount_0f7a4 (nI m) = some (nI (cn 6 m.testBit)) := pc_dec m h
theorem ones_ok {m : Nat} (h : m < 64) : fX7_ones (nI m) = some (nI (cn 6 m.testBit)) := ones_dec m h
theorem mk_or (p : Nat → Bool) {k : Nat} (hk : k < 6) (hp : p k = true) : mk k p ||| 2 ^ k = mk (k + 1) p := by
  have h1 : mk k p < 64 := mk_lt6 p (by omega)
  have h2 : 2 ^ k < 64 := by
    have : 2 ^ k < 2 ^ 6 := Nat.pow_lt_pow_right (by decide) hk
    omega
  refine bits_ext (or_lt h1 h2) (mk_lt6 p (by omega)) (fun i _ => ?_)
  rw [Nat.testBit_or, mk_bit, mk_bit, Nat.testBit_two_pow]
  rcases Nat.lt_trichotomy i k with h | h | h
  · simp [h, show ¬ k = i by omega, show i < k + 1 by omega]
  · subst h
    simp [hp]
  · simp [show ¬ k = i by omega, show ¬ i < k by omega, show ¬ i < k + 1 by omega]
theorem mk_no (p : Nat → Bool) {k : Nat} (hp : p k = false) : mk k p = mk (k + 1) p := by
  rw [mk, if_neg (by simp [hp]), Nat.add_zero]
theorem pow2_lt {k : Nat} (hk : k < 6) : 2 ^ k < 64 := by
  have : 2 ^ k < 2 ^ 6 := Nat.pow_lt_pow_right (by decide) hk
  omega

theorem b2i_n0 {b : Bool} : b2i b = nI 0 ↔ b = false := b2i_0
theorem b2i_n1 {b : Bool} : b2i b = nI 1 ↔ b = true := b2i_1
theorem b2i_f : b2i false = nI 0 := rfl
theorem b2i_t : b2i true = nI 1 := rfl
theorem n00 : nI 0 = nI 0 ↔ True := by simp
theorem n10 : nI 1 = nI 0 ↔ False := by decide
theorem m9n {k : Nat} (h : k < 2 ^ 31) : ¬ nI k = -nI 9 := m9 h
theorem m9len {k : Nat} (h : k < 2 ^ 31) : -nI 9 < nI k := m9le h
theorem nI_nen {n : Nat} (h0 : 0 < n) (h : n < 2 ^ 31) : ¬ nI n = nI 0 := nI_ne0 h0 h

theorem le_pred {x : Int32} {B : Nat} (hB : B < 2 ^ 30) : x ≤ nI B ↔ x < nI (B + 1) := by
  rw [Int32.le_iff_toInt_le, Int32.lt_iff_toInt_lt, nI_toInt (by omega), nI_toInt (by omega)]
  omega

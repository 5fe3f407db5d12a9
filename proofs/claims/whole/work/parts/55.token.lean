/-! ===== the text, token by token ===== -/
def isD (c : Nat) : Bool := decide (48 ≤ c) && decide (c ≤ 57)
def isL (c : Nat) : Bool := decide (c = 97) || (decide (c = 119) || (decide (c = 109) || decide (c = 108)))
def sk (x : Nat → Nat) : Nat → Nat → Nat
  | 0, p => p
  | j + 1, p => if x p = 32 then sk x j (p + 1) else p
def dg (x : Nat → Nat) : Nat → Nat → Nat → Nat × Nat
  | 0, p, v => (p, v)
  | j + 1, p, v => if isD (x p) = true then dg x j (p + 1) (if v ≤ 99 then 10 * v + (x p - 48) else v) else (p, v)
def tS (n : Nat) (x : Nat → Nat) (p : Nat) : Nat := sk x (n - p) p
def tD (n : Nat) (x : Nat → Nat) (p : Nat) : Nat × Nat := dg x (n - tS n x p) (tS n x p) 0
def tE (n : Nat) (x : Nat → Nat) (p : Nat) : Nat := if n ≤ tS n x p then tS n x p else if isD (x (tS n x p)) = true then (tD n x p).1 else tS n x p + 1
def tK (n : Nat) (x : Nat → Nat) (p : Nat) : Nat × Nat := if n ≤ tS n x p then (0, 0) else if isD (x (tS n x p)) = true then (if 99 < (tD n x p).2 ∨ (x (tS n x p) = 48 ∧ 1 < (tD n x p).1 - tS n x p) then (2, 0) else (1, (tD n x p).2)) else (3, x (tS n x p))
theorem sk_le (x : Nat → Nat) : ∀ j p, p ≤ sk x j p ∧ sk x j p ≤ p + j
  | 0, p => ⟨Nat.le_refl _, Nat.le_refl _⟩
  | j + 1, p => by
    rw [sk]
    have := sk_le x j (p + 1)
    split <;> omega
theorem dg_le (x : Nat → Nat) : ∀ j p v, p ≤ (dg x j p v).1 ∧ (dg x j p v).1 ≤ p + j
  | 0, p, v => ⟨Nat.le_refl _, Nat.le_refl _⟩
  | j + 1, p, v => by
    rw [dg]
    split
    · have := dg_le x j (p + 1) (if v ≤ 99 then 10 * v + (x p - 48) else v)
      omega
    · exact ⟨Nat.le_refl _, by show p ≤ _; omega⟩
theorem tS_le (x : Nat → Nat) {n p : Nat} (h : p ≤ n) : p ≤ tS n x p ∧ tS n x p ≤ n := by
  have := sk_le x (n - p) p
  unfold tS
  omega
theorem tD_lt (x : Nat → Nat) {n p : Nat} (h : p ≤ n) (hs : ¬ n ≤ tS n x p) (hd : isD (x (tS n x p)) = true) : tS n x p < (tD n x p).1 ∧ (tD n x p).1 ≤ n := by
  unfold tD
  obtain ⟨j, hj⟩ : ∃ j, n - tS n x p = j + 1 := ⟨n - tS n x p - 1, by omega⟩
  rw [hj, dg, if_pos hd]
  have := dg_le x j (tS n x p + 1) (if 0 ≤ 99 then 10 * 0 + (x (tS n x p) - 48) else 0)
  omega
theorem tE_le (x : Nat → Nat) {n p : Nat} (h : p ≤ n) : tS n x p ≤ tE n x p ∧ tE n x p ≤ n ∧ ((tK n x p).1 ≠ 0 → p < tE n x p) := by
  have h1 := tS_le x h
  unfold tE tK
  by_cases hs : n ≤ tS n x p
  · rw [if_pos hs, if_pos hs]
    exact ⟨Nat.le_refl _, h1.2, fun z => absurd rfl z⟩
  · rw [if_neg hs, if_neg hs]
    by_cases hd : isD (x (tS n x p)) = true
    · have h2 := tD_lt x h hs hd
      rw [if_pos hd, if_pos hd]
      exact ⟨by omega, h2.2, fun _ => by omega⟩
    · rw [if_neg hd, if_neg hd]
      exact ⟨by omega, by omega, fun _ => by omega⟩
theorem tK_v {x : Nat → Nat} {n : Nat} (hx : ∀ j, j < n → x j ≤ 255) (p : Nat) : (tK n x p).1 ≤ 3 ∧ ((tK n x p).1 = 1 → (tK n x p).2 ≤ 99) ∧ ((tK n x p).1 = 3 → (tK n x p).2 ≤ 255) := by
  unfold tK
  split
  · simp
  · next hs =>
    split
    · split
      · simp
      · next h =>
        simp
        omega
    · simp
      exact hx _ (by omega)
def TC (M : Mm) (n : Nat) (x : Nat → Nat) (p : Nat) : Prop := M.1 1 1 = nI n ∧ (∀ j, j < n → M.1 2 j = nI (x j)) ∧ M.1 1 2 = nI p
def TM0 (M : Mm) (n : Nat) (x : Nat → Nat) (p : Nat) : Prop := M.1 0 3 = nI n ∧ (∀ j, j < n → M.1 1 j = nI (x j)) ∧ M.1 0 4 = nI p
def KC (M : Mm) (k v : Nat) : Prop := (k = 0 → M.1 1 4 = -1) ∧ (k = 1 → M.1 1 4 = -2 ∧ M.1 1 5 = nI v) ∧ (k = 2 → M.1 1 4 = -2 ∧ M.1 1 5 = nI 100) ∧ (k = 3 → M.1 1 4 = nI v)
def KM (M : Mm) (k v : Nat) : Prop := (k = 0 → M.1 0 5 = nI 0) ∧ (k = 1 → M.1 0 5 = nI 2 ∧ M.1 0 7 = nI v) ∧ (k = 2 → M.1 0 5 = nI 4) ∧ (k = 3 → M.1 0 7 = nI v ∧ M.1 0 5 = if v = 59 then nI 3 else if isL v = true then nI 1 else nI 4)
def TM (M : Mm) (n : Nat) (x : Nat → Nat) (p : Nat) : Prop := TM0 M n x (tE n x p) ∧ M.1 0 6 = nI (tS n x p) ∧ KM M (tK n x p).1 (tK n x p).2
def fT (M0 M : Mm) : Prop := M.2 = M0.2 ∧ ∀ a k, (a ≠ 1 ∨ k < 2 ∨ 5 < k) → M.1 a k = M0.1 a k
def gT (M0 M : Mm) : Prop := M.2 = M0.2 ∧ ∀ a k, (a ≠ 0 ∨ k < 4 ∨ 7 < k) → M.1 a k = M0.1 a k
theorem fT.r (M : Mm) : fT M M := ⟨rfl, fun _ _ _ => rfl⟩
theorem gT.r (M : Mm) : gT M M := ⟨rfl, fun _ _ _ => rfl⟩
theorem fT.t {M0 M N : Mm} (h : fT M0 M) (g : fT M N) : fT M0 N := ⟨g.1.trans h.1, fun a k q => (g.2 a k q).trans (h.2 a k q)⟩
theorem gT.t {M0 M N : Mm} (h : gT M0 M) (g : gT M N) : gT M0 N := ⟨g.1.trans h.1, fun a k q => (g.2 a k q).trans (h.2 a k q)⟩
theorem wI_o (M : Mm) (a k : Nat) (v : Int32) {b j : Nat} (h : b ≠ a ∨ j ≠ k) : (wI M a k v).1 b j = M.1 b j := by
  show (if b = a ∧ j = k then v else M.1 b j) = _
  rw [if_neg (by omega)]
theorem fT.w {M0 M : Mm} (h : fT M0 M) {k : Nat} {v : Int32} (hk : 2 ≤ k ∧ k ≤ 5) : fT M0 (wI M 1 k v) := ⟨h.1, fun a j q => by rw [wI_o _ _ _ _ (by omega), h.2 a j q]⟩
theorem gT.w {M0 M : Mm} (h : gT M0 M) {k : Nat} {v : Int32} (hk : 4 ≤ k ∧ k ≤ 7) : gT M0 (wI M 0 k v) := ⟨h.1, fun a j q => by rw [wI_o _ _ _ _ (by omega), h.2 a j q]⟩
theorem TC.w {M : Mm} {n p : Nat} {x : Nat → Nat} (h : TC M n x p) {a k : Nat} {v : Int32} (hk : (a ≠ 1 ∨ (k ≠ 1 ∧ k ≠ 2)) ∧ a ≠ 2) : TC (wI M a k v) n x p :=
  ⟨by rw [wI_o _ _ _ _ (by omega), h.1], fun j hj => by rw [wI_o _ _ _ _ (by omega), h.2.1 j hj], by rw [wI_o _ _ _ _ (by omega), h.2.2]⟩
theorem TM0.w {M : Mm} {n p : Nat} {x : Nat → Nat} (h : TM0 M n x p) {a k : Nat} {v : Int32} (hk : (a ≠ 0 ∨ (k ≠ 3 ∧ k ≠ 4)) ∧ a ≠ 1) : TM0 (wI M a k v) n x p :=
  ⟨by rw [wI_o _ _ _ _ (by omega), h.1], fun j hj => by rw [wI_o _ _ _ _ (by omega), h.2.1 j hj], by rw [wI_o _ _ _ _ (by omega), h.2.2]⟩
theorem TC.p {M : Mm} {n p : Nat} {x : Nat → Nat} (h : TC M n x p) (q : Nat) : TC (wI M 1 2 (nI q)) n x q :=
  ⟨by rw [wI_o _ _ _ _ (by omega), h.1], fun j hj => by rw [wI_o _ _ _ _ (by omega), h.2.1 j hj], wI_v _ _ _ _⟩
theorem TM0.p {M : Mm} {n p : Nat} {x : Nat → Nat} (h : TM0 M n x p) (q : Nat) : TM0 (wI M 0 4 (nI q)) n x q :=
  ⟨by rw [wI_o _ _ _ _ (by omega), h.1], fun j hj => by rw [wI_o _ _ _ _ (by omega), h.2.1 j hj], wI_v _ _ _ _⟩
section TK
variable {n : Nat} {x : Nat → Nat}
theorem c_skip (hn : n ≤ 120) (hx : ∀ j, j < n → x j ≤ 255) : ∀ (j p : Nat) (M : Mm) (m : Nat), p + j = n → TC M n x p → j < m → ∃ M', fX4_readToken_L0 m M = some M' ∧ fT M M' ∧ TC M' n x (sk x j p)
  | 0, p, M, m, hj, h, hm => by
    obtain ⟨m, rfl⟩ : ∃ m', m = m' + 1 := ⟨m - 1, by omega⟩
    rw [fX4_readToken_L0, h.1, h.2.2, if_pos (nI_le (by omega) (by omega))]
    exact ⟨M, rfl, fT.r M, h⟩
  | j + 1, p, M, m, hj, h, hm => by
    obtain ⟨m, rfl⟩ : ∃ m', m = m' + 1 := ⟨m - 1, by omega⟩
    have hb := hx p (by omega)
    rw [fX4_readToken_L0, h.1, h.2.2, if_neg (nI_ge (by omega) (by omega)), ix_ok (by omega) (by decide), nI_clamp (by omega), h.2.1 p (by omega), lt_eq, nI_1, sk]
    by_cases e : x p = 32
    · rw [if_pos (show nI (x p) = 32 by rw [e]; rfl), if_pos e]
      obtain ⟨M', e1, e2, e3⟩ := c_skip hn hx j (p + 1) (wI M 1 2 (nI (p + 1))) m (by omega) (h.p _) (by omega)
      exact ⟨M', e1, ((fT.r M).w (by omega)).t e2, e3⟩
    · rw [if_neg (show ¬ nI (x p) = 32 from fun z => e ((nI_eq (b := 32) (by omega) (by decide)).mp z)), if_neg e]
      exact ⟨M, rfl, fT.r M, h⟩
theorem m_letter (hn : n ≤ 120) (hx : ∀ j, j < n → x j ≤ 255) {M : Mm} (h3 : M.1 0 3 = nI n) (hl : ∀ j, j < n → M.1 1 j = nI (x j)) {p : Nat} (hp : p ≤ n) : fX7_letterAt (nI p) M = some (if p < n then nI (x p) else -1) := by
  unfold fX7_letterAt
  rw [h3]
  by_cases e : p < n
  · rw [if_neg (nI_ge e (by omega)), ix_ok (by omega) (by decide), nI_clamp (by omega), hl p e, if_pos e]
  · rw [if_pos (nI_le (by omega) (by omega)), if_neg e]
theorem m_skip (hn : n ≤ 120) (hx : ∀ j, j < n → x j ≤ 255) : ∀ (j p : Nat) (M : Mm) (m : Nat), p + j = n → TM0 M n x p → j < m → ∃ M', fX7_advances_L0 m M = some M' ∧ gT M M' ∧ TM0 M' n x (sk x j p)
  | 0, p, M, m, hj, h, hm => by
    obtain ⟨m, rfl⟩ : ∃ m', m = m' + 1 := ⟨m - 1, by omega⟩
    rw [fX7_advances_L0, h.2.2, m_letter hn hx h.1 h.2.1 (by omega), bP_s, if_neg (show ¬ p < n by omega), if_neg (by decide)]
    exact ⟨M, rfl, gT.r M, h⟩
  | j + 1, p, M, m, hj, h, hm => by
    obtain ⟨m, rfl⟩ : ∃ m', m = m' + 1 := ⟨m - 1, by omega⟩
    have hb := hx p (by omega)
    rw [fX7_advances_L0, h.2.2, m_letter hn hx h.1 h.2.1 (by omega), bP_s, if_pos (show p < n by omega), lt_eq, nI_1, sk]
    by_cases e : x p = 32
    · rw [if_pos (show nI (x p) = 32 by rw [e]; rfl), if_pos e]
      obtain ⟨M', e1, e2, e3⟩ := m_skip hn hx j (p + 1) (wI M 0 4 (nI (p + 1))) m (by omega) (h.p _) (by omega)
      exact ⟨M', e1, ((gT.r M).w (by omega)).t e2, e3⟩
    · rw [if_neg (show ¬ nI (x p) = 32 from fun z => e ((nI_eq (b := 32) (by omega) (by decide)).mp z)), if_neg e]
      exact ⟨M, rfl, gT.r M, h⟩
theorem c_isDigit {c : Nat} (hc : c ≤ 255) : fX4_isDigit (nI c) = some (b2i (isD c)) := by
  unfold fX4_isDigit isD
  by_cases h1 : c < 48
  · rw [if_pos (show nI c < 48 from nI_lt (b := 48) h1 (by decide))]
    simp [show ¬ 48 ≤ c by omega]
    rfl
  · rw [if_neg (show ¬ nI c < 48 from nI_nlt (b := 48) (by omega) (by omega))]
    by_cases h2 : 57 < c
    · rw [if_pos (show 57 < nI c from nI_lt (a := 57) h2 (by omega))]
      simp [show ¬ c ≤ 57 by omega]
      rfl
    · rw [if_neg (show ¬ 57 < nI c from nI_nlt (a := 57) (by omega) (by decide))]
      simp [show 48 ≤ c by omega, show c ≤ 57 by omega]
      rfl
theorem m_isDigit {c : Nat} (hc : c ≤ 255) : fX7_in (nI c) 48 57 = some (b2i (isD c)) := m_in (b := 48) (c := 57) (by omega) (by decide) (by decide)
theorem c_digs (hn : n ≤ 120) (hx : ∀ j, j < n → x j ≤ 255) : ∀ (j p v : Nat) (M : Mm) (m : Nat), p + j = n → TC M n x p → M.1 1 5 = nI (Nat.min v 100) → v ≤ 999 → j < m → ∃ M', fX4_readDigits_L25 m M = some M' ∧ fT M M' ∧ TC M' n x (dg x j p v).1 ∧ M'.1 1 5 = nI (Nat.min (dg x j p v).2 100) ∧ (dg x j p v).2 ≤ 999 ∧ M'.1 1 3 = M.1 1 3 ∧ M'.1 1 4 = M.1 1 4
  | 0, p, v, M, m, hj, h, hv, hv9, hm => by
    obtain ⟨m, rfl⟩ : ∃ m', m = m' + 1 := ⟨m - 1, by omega⟩
    rw [fX4_readDigits_L25, h.1, h.2.2, if_pos (nI_le (by omega) (by omega))]
    exact ⟨M, rfl, fT.r M, h, hv, hv9, rfl, rfl⟩
  | j + 1, p, v, M, m, hj, h, hv, hv9, hm => by
    obtain ⟨m, rfl⟩ : ∃ m', m = m' + 1 := ⟨m - 1, by omega⟩
    have hb := hx p (by omega)
    rw [fX4_readDigits_L25, h.1, h.2.2, if_neg (nI_ge (by omega) (by omega)), ix_ok (by omega) (by decide), nI_clamp (by omega), h.2.1 p (by omega), c_isDigit hb, bP_s, dg]
    rcases Bool.eq_false_or_eq_true (isD (x p)) with e | e
    · have e' := e
      unfold isD at e'
      simp at e'
      have hc : (if (100 : Int32) < nI (Nat.min v 100) * 10 + nI (x p) - 48 then (100 : Int32) else nI (Nat.min v 100) * 10 + nI (x p) - 48) = nI (Nat.min (if v ≤ 99 then 10 * v + (x p - 48) else v) 100) := by
        have hm1 : Nat.min v 100 = min v 100 := rfl
        rw [show (10 : Int32) = nI 10 from rfl, pk_mul, nI_add, show (48 : Int32) = nI 48 from rfl, pk_sub (by omega)]
        by_cases q : v ≤ 99
        · have : Nat.min v 100 = v := Nat.min_eq_left (by omega)
          rw [if_pos q, this]
          by_cases w : 100 < v * 10 + x p - 48
          · rw [if_pos (show (100 : Int32) < nI (v * 10 + x p - 48) from nI_lt (a := 100) w (by omega)), show Nat.min (10 * v + (x p - 48)) 100 = 100 from Nat.min_eq_right (by omega)]
            rfl
          · rw [if_neg (show ¬ (100 : Int32) < nI (v * 10 + x p - 48) from nI_nlt (a := 100) (by omega) (by decide)), show Nat.min (10 * v + (x p - 48)) 100 = 10 * v + (x p - 48) from Nat.min_eq_left (by omega)]
            congr 1
            omega
        · have : Nat.min v 100 = 100 := Nat.min_eq_right (by omega)
          rw [if_neg q, this, if_pos (show (100 : Int32) < nI (100 * 10 + x p - 48) from nI_lt (a := 100) (by omega) (by omega))]
          rfl
      rw [e, if_neg (show ¬ b2i true = 0 by decide), if_pos rfl, ix_ok (by omega) (by decide), hv, hc, lt_eq, lt_eq, wI_o _ _ _ _ (by omega), h.2.2, nI_1]
      obtain ⟨M', e1, e2, e3, e4, e5, e6, e7⟩ := c_digs hn hx j (p + 1) (if v ≤ 99 then 10 * v + (x p - 48) else v) (wI (wI M 1 5 (nI (Nat.min (if v ≤ 99 then 10 * v + (x p - 48) else v) 100))) 1 2 (nI (p + 1))) m (by omega) ((h.w (by omega)).p _) (by rw [wI_o _ _ _ _ (by omega), wI_v]) (by split <;> omega) (by omega)
      exact ⟨M', e1, (((fT.r M).w (by omega)).w (by omega)).t e2, e3, e4, e5, by rw [e6, wI_o _ _ _ _ (by omega), wI_o _ _ _ _ (by omega)], by rw [e7, wI_o _ _ _ _ (by omega), wI_o _ _ _ _ (by omega)]⟩
    · rw [e, if_pos (show b2i false = 0 by decide), if_neg (by decide)]
      exact ⟨M, rfl, fT.r M, h, hv, hv9, rfl, rfl⟩
theorem m_digs (hn : n ≤ 120) (hx : ∀ j, j < n → x j ≤ 255) : ∀ (j p v : Nat) (M : Mm) (m : Nat), p + j = n → TM0 M n x p → M.1 0 7 = nI v → v ≤ 999 → j < m → ∃ M', fX7_advances_L71 m M = some M' ∧ gT M M' ∧ TM0 M' n x (dg x j p v).1 ∧ M'.1 0 7 = nI (dg x j p v).2 ∧ (dg x j p v).2 ≤ 999 ∧ M'.1 0 6 = M.1 0 6
  | 0, p, v, M, m, hj, h, hv, hv9, hm => by
    obtain ⟨m, rfl⟩ : ∃ m', m = m' + 1 := ⟨m - 1, by omega⟩
    rw [fX7_advances_L71, h.2.2, m_letter hn hx h.1 h.2.1 (by omega), bP_s, if_neg (show ¬ p < n by omega), show fX7_in (-1) 48 57 = some 0 from rfl, bP_s, if_pos rfl]
    exact ⟨M, rfl, gT.r M, h, hv, hv9, rfl⟩
  | j + 1, p, v, M, m, hj, h, hv, hv9, hm => by
    obtain ⟨m, rfl⟩ : ∃ m', m = m' + 1 := ⟨m - 1, by omega⟩
    have hb := hx p (by omega)
    rw [fX7_advances_L71, h.2.2, m_letter hn hx h.1 h.2.1 (by omega), bP_s, if_pos (show p < n by omega), m_isDigit hb, bP_s, dg]
    rcases Bool.eq_false_or_eq_true (isD (x p)) with e | e
    · have e' := e
      unfold isD at e'
      simp at e'
      rw [e, if_neg (show ¬ b2i true = 0 by decide), if_pos rfl, bP_s, hv, lt_eq, lt_eq, lt_eq, lt_eq, wI_o _ _ _ _ (by omega), wI_o _ _ _ _ (by omega), h.2.2, nI_1]
      by_cases q : v ≤ 99
      · rw [if_pos (show nI v ≤ 99 from nI_le (b := 99) q (by decide)), if_pos q, show (10 : Int32) = nI 10 from rfl, pk_mul, nI_add, show (48 : Int32) = nI 48 from rfl, pk_sub (by omega), show 10 * v + x p - 48 = 10 * v + (x p - 48) by omega]
        obtain ⟨M', e1, e2, e3, e4, e5, e6⟩ := m_digs hn hx j (p + 1) (10 * v + (x p - 48)) (wI (wI M 0 7 (nI (10 * v + (x p - 48)))) 0 4 (nI (p + 1))) m (by omega) ((h.w (by omega)).p _) (by rw [wI_o _ _ _ _ (by omega), wI_v]) (by omega) (by omega)
        exact ⟨M', e1, (((gT.r M).w (by omega)).w (by omega)).t e2, e3, e4, e5, by rw [e6, wI_o _ _ _ _ (by omega), wI_o _ _ _ _ (by omega)]⟩
      · rw [if_neg (show ¬ nI v ≤ 99 from (nI_ge (show 99 < v by omega) (by omega) : ¬ nI v ≤ nI 99)), if_neg q]
        obtain ⟨M', e1, e2, e3, e4, e5, e6⟩ := m_digs hn hx j (p + 1) v (wI (wI M 0 7 (nI v)) 0 4 (nI (p + 1))) m (by omega) ((h.w (by omega)).p _) (by rw [wI_o _ _ _ _ (by omega), wI_v]) (by omega) (by omega)
        exact ⟨M', e1, (((gT.r M).w (by omega)).w (by omega)).t e2, e3, e4, e5, by rw [e6, wI_o _ _ _ _ (by omega), wI_o _ _ _ _ (by omega)]⟩
    · rw [e, if_pos (show b2i false = 0 by decide), if_neg (by decide)]
      exact ⟨M, rfl, gT.r M, h, hv, hv9, rfl⟩
end TK

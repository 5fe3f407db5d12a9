/-! ===== the items of a text ===== -/
def keepC (t : Nat) (M0 M : Mm) : Prop := M.2 = M0.2 ∧ ∀ a k, ¬ IC t a k → M.1 a k = M0.1 a k
def keepM (M0 M : Mm) : Prop := M.2 = M0.2 ∧ ∀ a k, ¬ IM a k → M.1 a k = M0.1 a k
theorem keepC.r (t : Nat) (M : Mm) : keepC t M M := ⟨rfl, fun _ _ _ => rfl⟩
theorem keepM.r (M : Mm) : keepM M M := ⟨rfl, fun _ _ _ => rfl⟩
theorem keepC.t {t : Nat} {M0 M N : Mm} (h : keepC t M0 M) (g : keepC t M N) : keepC t M0 N := ⟨g.1.trans h.1, fun a k q => (g.2 a k q).trans (h.2 a k q)⟩
theorem keepM.t {M0 M N : Mm} (h : keepM M0 M) (g : keepM M N) : keepM M0 N := ⟨g.1.trans h.1, fun a k q => (g.2 a k q).trans (h.2 a k q)⟩
theorem keepC.w {t : Nat} {M0 M : Mm} (h : keepC t M0 M) {a k : Nat} {v : Int32} (hk : IC t a k) : keepC t M0 (wI M a k v) := ⟨h.1, fun b j q => by
  rw [wI_o _ _ _ _ (by
    by_cases e : b = a ∧ j = k
    · obtain ⟨rfl, rfl⟩ := e
      exact absurd hk q
    · omega), h.2 b j q]⟩
theorem keepM.w {M0 M : Mm} (h : keepM M0 M) {a k : Nat} {v : Int32} (hk : IM a k) : keepM M0 (wI M a k v) := ⟨h.1, fun b j q => by
  rw [wI_o _ _ _ _ (by
    by_cases e : b = a ∧ j = k
    · obtain ⟨rfl, rfl⟩ := e
      exact absurd hk q
    · omega), h.2 b j q]⟩
theorem fT.K {t : Nat} {M0 M : Mm} (h : fT M0 M) : keepC t M0 M := ⟨h.1, fun a k q => h.2 a k (by unfold IC at q; omega)⟩
theorem gT.K {M0 M : Mm} (h : gT M0 M) : keepM M0 M := ⟨h.1, fun a k q => h.2 a k (by unfold IM at q; omega)⟩
def b2n (b : Bool) : Nat := if b = true then 1 else 0
def DRc (b : Nat) (τ ω : Nat → Nat) (fm fl : Bool) (it : Nat) (M : Mm) : Prop := M.1 b 3 = nI it ∧ M.1 b 4 = nI (τ 0) ∧ M.1 b 5 = nI (τ 1) ∧ M.1 b 6 = nI (τ 2) ∧ M.1 b 7 = nI (τ 3) ∧ (∀ r, r < τ 0 → M.1 (b + 1) r = nI (ω r)) ∧ (∀ w, w < τ 2 → M.1 (b + 2) w = nI (τ (4 + w)) ∧ M.1 (b + 3) w = nI (τ (10 + w))) ∧ M.1 1 6 = b2i fm ∧ M.1 1 7 = b2i fl
def DRm (τ ω : Nat → Nat) (fm fl : Bool) (M : Mm) : Prop := M.1 2 4 = nI (τ 0) ∧ M.1 2 5 = nI (τ 1) ∧ M.1 2 6 = nI (τ 2) ∧ M.1 2 7 = nI (τ 3) ∧ (∀ r, r < τ 0 → M.1 3 r = nI (ω r)) ∧ (∀ w, w < τ 2 → M.1 4 (5 + w) = nI (τ (4 + w)) ∧ M.1 5 (5 + w) = nI (τ (10 + w))) ∧ M.1 0 9 = nI (b2n fm + 2 * b2n fl)
def OKt (τ ω : Nat → Nat) : Prop := TI τ ∧ ∀ r, r < τ 0 → ω r ≤ 99
theorem fT.D {b : Nat} {τ ω : Nat → Nat} {fm fl : Bool} {it : Nat} {M0 M : Mm} (h : fT M0 M) (hb : 2 ≤ b) (d : DRc b τ ω fm fl it M0) : DRc b τ ω fm fl it M := by
  obtain ⟨d1, d2, d3, d4, d5, d6, d7, d8, d9⟩ := d
  exact ⟨by rw [h.2 _ _ (by omega), d1], by rw [h.2 _ _ (by omega), d2], by rw [h.2 _ _ (by omega), d3], by rw [h.2 _ _ (by omega), d4], by rw [h.2 _ _ (by omega), d5], fun r hr => by rw [h.2 _ _ (by omega), d6 r hr], fun w hw => by rw [h.2 _ _ (by omega), h.2 _ _ (by omega)]; exact d7 w hw, by rw [h.2 _ _ (by omega), d8], by rw [h.2 _ _ (by omega), d9]⟩
theorem gT.D {τ ω : Nat → Nat} {fm fl : Bool} {M0 M : Mm} (h : gT M0 M) (d : DRm τ ω fm fl M0) : DRm τ ω fm fl M := by
  obtain ⟨d1, d2, d3, d4, d5, d6, d7⟩ := d
  exact ⟨by rw [h.2 _ _ (by omega), d1], by rw [h.2 _ _ (by omega), d2], by rw [h.2 _ _ (by omega), d3], by rw [h.2 _ _ (by omega), d4], fun r hr => by rw [h.2 _ _ (by omega), d5 r hr], fun w hw => by rw [h.2 _ _ (by omega), h.2 _ _ (by omega)]; exact d6 w hw, by rw [h.2 _ _ (by omega), d7]⟩
def okN (n : Nat) (x : Nat → Nat) (p lo hi : Nat) : Bool := decide ((tK n x p).1 = 1) && (decide (lo ≤ (tK n x p).2) && decide ((tK n x p).2 ≤ hi))
theorem okN_t {n : Nat} {x : Nat → Nat} {p lo hi : Nat} (h : okN n x p lo hi = true) : (tK n x p).1 = 1 ∧ lo ≤ (tK n x p).2 ∧ (tK n x p).2 ≤ hi := by
  unfold okN at h
  simp at h
  exact h
theorem TM.w {M : Mm} {n p : Nat} {x : Nat → Nat} (h : TM M n x p) {a k : Nat} {v : Int32} (hk : (a ≠ 0 ∨ k < 3 ∨ 7 < k) ∧ a ≠ 1) : TM (wI M a k v) n x p := by
  obtain ⟨h1, h2, h3, h4, h5, h6⟩ := h
  refine ⟨h1.w (by omega), by rw [wI_o _ _ _ _ (by omega), h2], fun z => by rw [wI_o _ _ _ _ (by omega), h3 z], fun z => ?_, fun z => by rw [wI_o _ _ _ _ (by omega), h5 z], fun z => ?_⟩
  · rw [wI_o _ _ _ _ (by omega), wI_o _ _ _ _ (by omega)]
    exact h4 z
  · rw [wI_o _ _ _ _ (by omega), wI_o _ _ _ _ (by omega)]
    exact h6 z
section IT
variable {n : Nat} {x : Nat → Nat}
theorem c_number (hn : n ≤ 120) (hx : ∀ j, j < n → x j ≤ 255) {p : Nat} (hp : p ≤ n) {M : Mm} (h : TC M n x p) {lo hi : Nat} (hl : lo ≤ 99) (hh : hi ≤ 99) : ∃ M', fX4_readsNumber (nI lo) (nI hi) M = some (b2i (okN n x p lo hi), M') ∧ fT M M' ∧ TC M' n x (tE n x p) ∧ M'.1 1 3 = nI (tS n x p) ∧ (okN n x p lo hi = true → M'.1 1 5 = nI (tK n x p).2) := by
  obtain ⟨M1, a1, a2, a3, a4, a5⟩ := c_token hn hx hp h
  have hv := tK_v hx p
  unfold fX4_readsNumber okN
  rw [a1, bP_s]
  obtain ⟨k0, k1, k2, k3⟩ := a5
  generalize hk : (tK n x p).1 = k at *
  have : k = 0 ∨ k = 1 ∨ k = 2 ∨ k = 3 := by omega
  rcases this with rfl | rfl | rfl | rfl
  · rw [k0 rfl, if_neg (by decide)]
    exact ⟨M1, rfl, a2, a3, a4, fun z => by simp at z⟩
  · obtain ⟨q1, q2⟩ := k1 rfl
    have := hv.2.1 rfl
    rw [q1, if_pos rfl, q2]
    by_cases w1 : (tK n x p).2 < lo
    · rw [if_pos (nI_lt w1 (by omega))]
      refine ⟨M1, ?_, a2, a3, a4, fun _ => q2⟩
      simp [show ¬ lo ≤ (tK n x p).2 by omega]
      rfl
    · rw [if_neg (nI_nlt (by omega) (by omega))]
      by_cases w2 : hi < (tK n x p).2
      · rw [if_pos (nI_lt w2 (by omega))]
        refine ⟨M1, ?_, a2, a3, a4, fun _ => q2⟩
        simp [show ¬ (tK n x p).2 ≤ hi by omega]
        rfl
      · rw [if_neg (nI_nlt (by omega) (by omega))]
        refine ⟨M1, ?_, a2, a3, a4, fun _ => q2⟩
        simp [show lo ≤ (tK n x p).2 by omega, show (tK n x p).2 ≤ hi by omega]
        rfl
  · obtain ⟨q1, q2⟩ := k2 rfl
    rw [q1, if_pos rfl, q2, if_neg (nI_nlt (by omega) (by omega)), if_pos (nI_lt (by omega) (by omega))]
    exact ⟨M1, rfl, a2, a3, a4, fun z => by simp at z⟩
  · have := hv.2.2 rfl
    rw [k3 rfl, if_neg (fun z => by
      have h1 : nI (tK n x p).2 < 0 := by rw [z]; decide
      exact nI_pos (by omega) h1)]
    exact ⟨M1, rfl, a2, a3, a4, fun z => by simp at z⟩
theorem m_well {M : Mm} (h : M.1 0 8 = -1) : fX7_isWell M = some 1 := by
  unfold fX7_isWell
  rw [h]
  rfl
theorem m_ill {M : Mm} {s : Nat} (h : M.1 0 8 = nI s) (hs : s ≤ 120) : fX7_isWell M = some 0 := by
  unfold fX7_isWell
  rw [h, if_pos (show (0 : Int32) ≤ nI s from nI_le (a := 0) (by omega) (by omega))]
theorem m_takes0 {M : Mm} (h : M.1 0 8 = -1) : fX7_takes 0 M = some (0, wI M 0 8 (M.1 0 6)) := by
  unfold fX7_takes
  rw [m_well h, bP_s, if_neg (by decide), if_pos rfl, lt_eq]
theorem m_takesI {M : Mm} {s : Nat} (h : M.1 0 8 = nI s) (hs : s ≤ 120) (j : Int32) : fX7_takes j M = some (0, M) := by
  unfold fX7_takes
  rw [m_ill h hs, bP_s, if_pos rfl]
theorem m_takes1 (hn : n ≤ 120) (hx : ∀ j, j < n → x j ≤ 255) {p : Nat} (hp : p ≤ n) {M : Mm} (h : TM M n x p) (h8 : M.1 0 8 = -1) : ∃ M', fX7_takes 1 M = some (M.1 0 7, M') ∧ gT M M' ∧ TM M' n x (tE n x p) := by
  obtain ⟨M', e1, e2, e3⟩ := m_token hn hx (tE_le x hp).2.1 h.1
  unfold fX7_takes
  rw [m_well h8, bP_s, if_neg (by decide), if_neg (by decide), e1, bP_s]
  exact ⟨M', rfl, e2, e3⟩
theorem m_number (hn : n ≤ 120) (hx : ∀ j, j < n → x j ≤ 255) {p : Nat} (hp : p ≤ n) {M : Mm} (h : TM M n x p) (h8 : M.1 0 8 = -1) {lo hi : Nat} (hl : lo ≤ 99) (hh : hi ≤ 99) : (okN n x p lo hi = true → ∃ M', fX7_number (nI lo) (nI hi) M = some (nI (tK n x p).2, M') ∧ gT M M' ∧ TM M' n x (tE n x p)) ∧ (okN n x p lo hi = false → fX7_number (nI lo) (nI hi) M = some (0, wI M 0 8 (nI (tS n x p)))) := by
  have hv := tK_v hx p
  obtain ⟨k0, k1, k2, k3⟩ := h.2.2
  have hno : ∀ {α : Type} {a b : Option α}, (tK n x p).1 ≠ 1 → (if M.1 0 5 = 2 then a else b) = b := fun hne => by
    have : ¬ M.1 0 5 = 2 := by
      have : (tK n x p).1 = 0 ∨ (tK n x p).1 = 2 ∨ (tK n x p).1 = 3 := by omega
      rcases this with e | e | e
      · rw [k0 e]
        decide
      · rw [k2 e]
        decide
      · rw [(k3 e).2]
        split
        · decide
        · split <;> decide
    exact if_neg this
  unfold fX7_number
  constructor
  · intro ok
    obtain ⟨o1, o2, o3⟩ := okN_t ok
    obtain ⟨q1, q2⟩ := k1 o1
    obtain ⟨M', e1, e2, e3⟩ := m_takes1 hn hx hp h h8
    have := hv.2.1 o1
    rw [q1, if_pos (show nI 2 = 2 from rfl), q2, m_in (by omega) (by omega) (by omega), bP_s, if_neg (by simp [b2i, o2, o3]), bP_s, e1, b2_s, q2]
    exact ⟨M', rfl, e2, e3⟩
  · intro ok
    by_cases e : (tK n x p).1 = 1
    · obtain ⟨q1, q2⟩ := k1 e
      have := hv.2.1 e
      have ok' : (decide (lo ≤ (tK n x p).2) && decide ((tK n x p).2 ≤ hi)) = false := by
        unfold okN at ok
        rw [decide_eq_true e, Bool.true_and] at ok
        exact ok
      rw [q1, if_pos (show nI 2 = 2 from rfl), q2, m_in (by omega) (by omega) (by omega), bP_s, ok', if_pos (show b2i false = 0 by decide), bP_s, m_takes0 h8, b2_s, h.2.1]
    · rw [hno e, bP_s, m_takes0 h8, b2_s, h.2.1]
end IT

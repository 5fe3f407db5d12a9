/-! ===== a token, both ways ===== -/
section TK2
variable {n : Nat} {x : Nat → Nat}
theorem c_token (hn : n ≤ 120) (hx : ∀ j, j < n → x j ≤ 255) {p : Nat} (hp : p ≤ n) {M : Mm} (h : TC M n x p) : ∃ M', fX4_readToken M = some M' ∧ fT M M' ∧ TC M' n x (tE n x p) ∧ M'.1 1 3 = nI (tS n x p) ∧ KC M' (tK n x p).1 (tK n x p).2 := by
  obtain ⟨M1, a1, a2, a3⟩ := c_skip hn hx (n - p) p M 50000 (by omega) h (by omega)
  have hs := tS_le x hp
  have a3 : TC M1 n x (tS n x p) := a3
  have b3 := a3.w (a := 1) (k := 3) (v := nI (tS n x p)) (by omega)
  have f3 : fT M (wI M1 1 3 (nI (tS n x p))) := a2.w (by omega)
  unfold fX4_readToken tE tK
  rw [a1, bP_s, a3.2.2, lt_eq, b3.2.2, b3.1]
  by_cases e : n ≤ tS n x p
  · rw [if_neg (show ¬ nI (tS n x p) < nI n from nI_nlt e (by omega)), if_pos e, if_pos e, lt_eq]
    refine ⟨_, rfl, f3.w (by omega), b3.w (by omega), by rw [wI_o _ _ _ _ (by omega), wI_v], fun _ => wI_v _ _ _ _, fun z => ?_, fun z => ?_, fun z => ?_⟩ <;> cases z
  · have hb := hx (tS n x p) (by omega)
    rw [if_pos (show nI (tS n x p) < nI n from nI_lt (by omega) (by omega)), if_neg e, if_neg e, ix_ok (by omega) (by decide), ix_ok (by omega) (by decide), nI_clamp (by omega), b3.2.1 _ (by omega), c_isDigit hb, bP_s]
    rcases Bool.eq_false_or_eq_true (isD (x (tS n x p))) with d | d
    · have c4 := b3.w (a := 1) (k := 4) (v := -2) (by omega)
      have c5 := c4.w (a := 1) (k := 5) (v := nI 0) (by omega)
      obtain ⟨M2, e1, e2, e3, e4, e5, e6, e7⟩ := c_digs hn hx (n - tS n x p) (tS n x p) 0 _ 50000 (by omega) c5 (by rw [wI_v]; rfl) (by omega) (by omega)
      have e3 : TC M2 n x (tD n x p).1 := e3
      have e4 : M2.1 1 5 = nI (Nat.min (tD n x p).2 100) := e4
      have e5 : (tD n x p).2 ≤ 999 := e5
      have hd := tD_lt x hp e d
      have e6' : M2.1 1 3 = nI (tS n x p) := by rw [e6, wI_o _ _ _ _ (by omega), wI_o _ _ _ _ (by omega), wI_v]
      have e7' : M2.1 1 4 = -2 := by rw [e7, wI_o _ _ _ _ (by omega), wI_v]
      have fr : fT M M2 := ((f3.w (by omega)).w (by omega)).t e2
      rw [d, if_neg (show ¬ b2i true = 0 by decide), if_pos rfl, if_pos rfl, lt_eq]
      unfold fX4_readDigits
      rw [c4.2.2, ix_ok (by omega) (by decide), nI_clamp (by omega), c4.2.1 _ (by omega), show ((0 : Int32)) = nI 0 from rfl]
      by_cases z : x (tS n x p) = 48
      · rw [if_pos (show nI (x (tS n x p)) = 48 by rw [z]; rfl), bP_s, lt_eq, e1, bP_s, e3.2.2, e6', show (1 : Int32) = nI 1 from rfl, pk_sub (by omega), if_neg (show ¬ nI 1 = nI 0 by decide)]
        by_cases w : (tD n x p).1 - tS n x p ≤ 1
        · rw [if_pos (nI_le w (by decide)), bP_s]
          refine ⟨M2, rfl, fr, e3, e6', ?_⟩
          by_cases y : 99 < (tD n x p).2
          · rw [if_pos (Or.inl y)]
            refine ⟨fun z => ?_, fun z => ?_, fun _ => ⟨e7', by rw [e4, show Nat.min (tD n x p).2 100 = 100 from Nat.min_eq_right (by omega)]⟩, fun z => ?_⟩ <;> cases z
          · rw [if_neg (by omega)]
            refine ⟨fun z => ?_, fun _ => ⟨e7', by rw [e4, show Nat.min (tD n x p).2 100 = (tD n x p).2 from Nat.min_eq_left (by omega)]⟩, fun z => ?_, fun z => ?_⟩ <;> cases z
        · rw [if_neg (show ¬ nI ((tD n x p).1 - tS n x p) ≤ nI 1 from nI_ge (by omega) (by omega)), lt_eq, bP_s, if_pos (Or.inr ⟨z, by omega⟩)]
          refine ⟨_, rfl, fr.w (by omega), e3.w (by omega), by rw [wI_o _ _ _ _ (by omega), e6'], fun z => ?_, fun z => ?_, fun _ => ⟨by rw [wI_o _ _ _ _ (by omega), e7'], wI_v _ _ _ _⟩, fun z => ?_⟩ <;> cases z
      · rw [if_neg (show ¬ nI (x (tS n x p)) = 48 from fun q => z ((nI_eq (b := 48) (by omega) (by decide)).mp q)), bP_s, lt_eq, e1, bP_s, if_pos rfl, bP_s]
        refine ⟨M2, rfl, fr, e3, e6', ?_⟩
        by_cases y : 99 < (tD n x p).2
        · rw [if_pos (Or.inl y)]
          refine ⟨fun z => ?_, fun z => ?_, fun _ => ⟨e7', by rw [e4, show Nat.min (tD n x p).2 100 = 100 from Nat.min_eq_right (by omega)]⟩, fun z => ?_⟩ <;> cases z
        · rw [if_neg (by omega)]
          refine ⟨fun z => ?_, fun _ => ⟨e7', by rw [e4, show Nat.min (tD n x p).2 100 = (tD n x p).2 from Nat.min_eq_left (by omega)]⟩, fun z => ?_, fun z => ?_⟩ <;> cases z
    · have c4 := b3.w (a := 1) (k := 4) (v := nI (x (tS n x p))) (by omega)
      rw [d, if_pos (show b2i false = 0 by decide), if_neg (show ¬ false = true by decide), if_neg (show ¬ false = true by decide), lt_eq, c4.2.2, nI_1, lt_eq]
      refine ⟨_, rfl, (f3.w (by omega)).w (by omega), c4.p _, by rw [wI_o _ _ _ _ (by omega), wI_o _ _ _ _ (by omega), wI_v], fun z => ?_, fun z => ?_, fun z => ?_, fun _ => by rw [wI_o _ _ _ _ (by omega), wI_v]⟩ <;> cases z
theorem m_isLetter {c : Nat} (hc : c ≤ 255) : fX7_isLetter (nI c) = some (b2i (isL c)) := by
  have key : ∀ k : Nat, k ≤ 255 → (nI c = nI k ↔ c = k) := fun k hk => nI_eq (by omega) (by omega)
  unfold fX7_isLetter isL
  rw [show (97 : Int32) = nI 97 from rfl, show (119 : Int32) = nI 119 from rfl, show (109 : Int32) = nI 109 from rfl, show (108 : Int32) = nI 108 from rfl]
  simp only [key 97 (by decide), key 119 (by decide), key 109 (by decide), key 108 (by decide)]
  by_cases h1 : c = 97
  · simp [h1]
    rfl
  · by_cases h2 : c = 119
    · simp [h2]
      rfl
    · by_cases h3 : c = 109
      · simp [h3]
        rfl
      · by_cases h4 : c = 108
        · simp [h4]
          rfl
        · simp [h1, h2, h3, h4]
          rfl
theorem m_token (hn : n ≤ 120) (hx : ∀ j, j < n → x j ≤ 255) {p : Nat} (hp : p ≤ n) {M : Mm} (h : TM0 M n x p) : ∃ M', fX7_advances M = some M' ∧ gT M M' ∧ TM M' n x p := by
  obtain ⟨M1, a1, a2, a3⟩ := m_skip hn hx (n - p) p M 50000 (by omega) h (by omega)
  have hs := tS_le x hp
  have a3 : TM0 M1 n x (tS n x p) := a3
  have b3 := a3.w (a := 0) (k := 6) (v := nI (tS n x p)) (by omega)
  have f3 : gT M (wI M1 0 6 (nI (tS n x p))) := a2.w (by omega)
  unfold fX7_advances TM tE tK
  rw [a1, bP_s, a3.2.2, lt_eq, b3.2.2, m_letter hn hx b3.1 b3.2.1 hs.2, bP_s]
  by_cases e : n ≤ tS n x p
  · rw [if_neg (show ¬ tS n x p < n by omega), if_neg (by decide), if_pos e, if_pos e, lt_eq]
    refine ⟨_, rfl, f3.w (by omega), b3.w (by omega), by rw [wI_o _ _ _ _ (by omega), wI_v], fun _ => wI_v _ _ _ _, fun z => ?_, fun z => ?_, fun z => ?_⟩ <;> cases z
  · have hb := hx (tS n x p) (by omega)
    rw [if_pos (show tS n x p < n by omega), if_neg e, if_neg e, if_pos (show (0 : Int32) ≤ nI (x (tS n x p)) from nI_le (a := 0) (by omega) (by omega)), m_isDigit hb, bP_s]
    rcases Bool.eq_false_or_eq_true (isD (x (tS n x p))) with d | d
    · have c7 := b3.w (a := 0) (k := 7) (v := nI 0) (by omega)
      obtain ⟨M2, e1, e2, e3, e4, e5, e6⟩ := m_digs hn hx (n - tS n x p) (tS n x p) 0 _ 50000 (by omega) c7 (wI_v _ _ _ _) (by omega) (by omega)
      have e3 : TM0 M2 n x (tD n x p).1 := e3
      have e4 : M2.1 0 7 = nI (tD n x p).2 := e4
      have e5 : (tD n x p).2 ≤ 999 := e5
      have hd := tD_lt x hp e d
      have e6' : M2.1 0 6 = nI (tS n x p) := by rw [e6, wI_o _ _ _ _ (by omega), wI_v]
      have fr : gT M M2 := (f3.w (by omega)).t e2
      rw [d, if_neg (show ¬ b2i true = 0 by decide), if_pos rfl, if_pos rfl, show ((0 : Int32)) = nI 0 from rfl, lt_eq, e1, bP_s, e4, e3.2.2, e6', show (1 : Int32) = nI 1 from rfl, pk_sub (by omega)]
      by_cases y : 99 < (tD n x p).2
      · rw [if_pos (show 99 < nI (tD n x p).2 from nI_lt (a := 99) y (by omega)), if_pos (Or.inl y), lt_eq]
        refine ⟨_, rfl, fr.w (by omega), e3.w (by omega), by rw [wI_o _ _ _ _ (by omega), e6'], fun z => ?_, fun z => ?_, fun _ => wI_v _ _ _ _, fun z => ?_⟩ <;> cases z
      · rw [if_neg (show ¬ 99 < nI (tD n x p).2 from nI_nlt (a := 99) (by omega) (by decide))]
        by_cases z : x (tS n x p) = 48
        · rw [if_pos (show nI (x (tS n x p)) = 48 by rw [z]; rfl)]
          by_cases w : (tD n x p).1 - tS n x p ≤ 1
          · rw [if_pos (nI_le w (by decide)), if_neg (by omega), lt_eq]
            refine ⟨_, rfl, fr.w (by omega), e3.w (by omega), by rw [wI_o _ _ _ _ (by omega), e6'], fun z => ?_, fun _ => ⟨wI_v _ _ _ _, by rw [wI_o _ _ _ _ (by omega), e4]⟩, fun z => ?_, fun z => ?_⟩ <;> cases z
          · rw [if_neg (show ¬ nI ((tD n x p).1 - tS n x p) ≤ nI 1 from nI_ge (by omega) (by omega)), if_pos (Or.inr ⟨z, by omega⟩), lt_eq]
            refine ⟨_, rfl, fr.w (by omega), e3.w (by omega), by rw [wI_o _ _ _ _ (by omega), e6'], fun z => ?_, fun z => ?_, fun _ => wI_v _ _ _ _, fun z => ?_⟩ <;> cases z
        · rw [if_neg (show ¬ nI (x (tS n x p)) = 48 from fun q => z ((nI_eq (b := 48) (by omega) (by decide)).mp q)), if_neg (by omega), lt_eq]
          refine ⟨_, rfl, fr.w (by omega), e3.w (by omega), by rw [wI_o _ _ _ _ (by omega), e6'], fun z => ?_, fun _ => ⟨wI_v _ _ _ _, by rw [wI_o _ _ _ _ (by omega), e4]⟩, fun z => ?_, fun z => ?_⟩ <;> cases z
    · have c4 := b3.p (tS n x p + 1)
      have c7 := c4.w (a := 0) (k := 7) (v := nI (x (tS n x p))) (by omega)
      have fr : gT M (wI (wI (wI M1 0 6 (nI (tS n x p))) 0 4 (nI (tS n x p + 1))) 0 7 (nI (x (tS n x p)))) := (f3.w (by omega)).w (by omega)
      have e6' : (wI (wI (wI M1 0 6 (nI (tS n x p))) 0 4 (nI (tS n x p + 1))) 0 7 (nI (x (tS n x p)))).1 0 6 = nI (tS n x p) := by rw [wI_o _ _ _ _ (by omega), wI_o _ _ _ _ (by omega), wI_v]
      rw [d, if_pos (show b2i false = 0 by decide), if_neg (show ¬ false = true by decide), if_neg (show ¬ false = true by decide), nI_1, lt_eq, lt_eq]
      by_cases y : x (tS n x p) = 59
      · rw [if_pos (show nI (x (tS n x p)) = 59 by rw [y]; rfl), lt_eq]
        refine ⟨_, rfl, fr.w (by omega), c7.w (by omega), by rw [wI_o _ _ _ _ (by omega), e6'], fun z => ?_, fun z => ?_, fun z => ?_, fun _ => ⟨by rw [wI_o _ _ _ _ (by omega), wI_v], by rw [wI_v, if_pos y]; rfl⟩⟩ <;> cases z
      · rw [if_neg (show ¬ nI (x (tS n x p)) = 59 from fun q => y ((nI_eq (b := 59) (by omega) (by decide)).mp q)), m_isLetter hb, bP_s]
        rcases Bool.eq_false_or_eq_true (isL (x (tS n x p))) with w | w
        · rw [w, if_neg (show ¬ b2i true = 0 by decide), lt_eq]
          refine ⟨_, rfl, fr.w (by omega), c7.w (by omega), by rw [wI_o _ _ _ _ (by omega), e6'], fun z => ?_, fun z => ?_, fun z => ?_, fun _ => ⟨by rw [wI_o _ _ _ _ (by omega), wI_v], by rw [wI_v, if_neg y, if_pos w]; rfl⟩⟩ <;> cases z
        · rw [w, if_pos (show b2i false = 0 by decide), lt_eq]
          refine ⟨_, rfl, fr.w (by omega), c7.w (by omega), by rw [wI_o _ _ _ _ (by omega), e6'], fun z => ?_, fun z => ?_, fun z => ?_, fun _ => ⟨by rw [wI_o _ _ _ _ (by omega), wI_v], by rw [wI_v, if_neg y, if_neg (by rw [w]; decide)]; rfl⟩⟩ <;> cases z
end TK2

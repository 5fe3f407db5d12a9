/-! ===== the two systems side by side ===== -/
def RX (Mc Md : Mm) : Prop := ∃ (n : Nat) (x : Nat → Nat), n ≤ 120 ∧ Mc.1 1 1 = nI n ∧ Md.1 0 3 = nI n ∧ ∀ j, j < n → Mc.1 2 j = nI (x j) ∧ Md.1 1 j = nI (x j) ∧ x j ≤ 255
def RU (Mc Md : Mm) (τ : Nat → Nat) : Prop := ∃ (u f : Nat) (υ : Nat → Nat → Nat), u ≤ 10 ∧ f < 10 ∧ Mc.1 7 1 = nI f ∧ Mc.1 7 2 = nI u ∧ Md.1 0 18 = nI u ∧ ∀ i, i < u → CM τ (9 + 4 * ((f + 10 - u + i) % 10)) Mc (υ i) ∧ (∀ k, k < 21 → Md.1 9 (21 * i + k) = nI (υ i k)) ∧ MI τ (υ i)
def RI (Mc Md : Mm) (τ : Nat → Nat) : Prop := ∀ i, i < 2 → ∃ b : Bool, Mc.1 50 i = b2i b ∧ Md.1 8 i = b2i b ∧ (b = true → ∃ κ : Nat → Nat, CM τ (72 + 4 * i) Mc κ ∧ (∀ k, k < 21 → Md.1 7 (21 * i + k) = nI (κ k)) ∧ MI τ κ)
def RS (Mc Md : Mm) (τ : Nat → Nat) : Prop := ∃ (n : Nat) (sw : Nat → Nat) (sb : Nat → Bool), n ≤ 6 ∧ Mc.1 61 2 = nI n ∧ Md.1 0 21 = nI n ∧ ∀ i, i < n → sw i < τ 2 ∧ Mc.1 62 i = nI (sw i) ∧ Md.1 10 i = nI (sw i) ∧ Mc.1 63 i = b2i (sb i) ∧ Md.1 11 i = b2i (sb i)
def RT (t : Nat) (Mc Md : Mm) (τ : Nat → Nat) : Prop := TI τ ∧ CTt t Mc τ ∧ Mc.1 0 8 = nI (132 - t) ∧ MTt Md τ
def RN (Mc Md : Mm) (τ μ : Nat → Nat) : Prop := CM τ 3 Mc μ ∧ MMr (Md.1 6) μ ∧ MI τ μ
def RelT (t : Nat) (τ μ : Nat → Nat) (Mc Md : Mm) : Prop := RT t Mc Md τ ∧ RN Mc Md τ μ ∧ RX Mc Md ∧ RU Mc Md τ ∧ RI Mc Md τ ∧ RS Mc Md τ ∧ Mc.2 = Md.2
def Rel (Mc Md : Mm) : Prop := ∃ (t : Nat) (τ μ : Nat → Nat), RelT t τ μ Mc Md
theorem CMr_cong {o od jn ag o' od' jn' ag' : Nat → Int32} {τ μ : Nat → Nat} (h : CMr τ o od jn ag μ) (h1 : ∀ k, o' k = o k) (h2 : ∀ k, od' k = od k) (h3 : ∀ k, jn' k = jn k) (h4 : ∀ k, ag' k = ag k) : CMr τ o' od' jn' ag' μ := by
  obtain ⟨a, b, c, d, e, f⟩ := h
  exact ⟨by rw [h1, a], by rw [h1, b], by rw [h1, c], fun r hr => by rw [h2, d r hr], fun r hr => by rw [h3, e r hr], fun r hr hb => by rw [h4, f r hr hb]⟩
theorem CM_cong {M M' : Mm} {a : Nat} {τ μ : Nat → Nat} (h : CM τ a M μ) (hk : ∀ j k, a ≤ j → j ≤ a + 3 → M'.1 j k = M.1 j k) : CM τ a M' μ :=
  CMr_cong h (fun k => hk a k (by omega) (by omega)) (fun k => hk (a + 1) k (by omega) (by omega)) (fun k => hk (a + 2) k (by omega) (by omega)) (fun k => hk (a + 3) k (by omega) (by omega))
theorem RX_cong {Mc Md Mc' Md' : Mm} (h : RX Mc Md) (h1 : Mc'.1 1 1 = Mc.1 1 1) (h2 : ∀ k, Mc'.1 2 k = Mc.1 2 k) (h3 : Md'.1 0 3 = Md.1 0 3) (h4 : ∀ k, Md'.1 1 k = Md.1 1 k) : RX Mc' Md' := by
  obtain ⟨n, x, a, b, c, d⟩ := h
  exact ⟨n, x, a, by rw [h1, b], by rw [h3, c], fun j hj => by rw [h2, h4]; exact d j hj⟩
theorem RU_cong {Mc Md Mc' Md' : Mm} {τ : Nat → Nat} (h : RU Mc Md τ) (h1 : Mc'.1 7 1 = Mc.1 7 1) (h2 : Mc'.1 7 2 = Mc.1 7 2) (h3 : Md'.1 0 18 = Md.1 0 18) (h4 : ∀ j k, 9 ≤ j → j < 49 → Mc'.1 j k = Mc.1 j k) (h5 : ∀ k, Md'.1 9 k = Md.1 9 k) : RU Mc' Md' τ := by
  obtain ⟨u, f, υ, a, b, c, d, e, g⟩ := h
  refine ⟨u, f, υ, a, b, by rw [h1, c], by rw [h2, d], by rw [h3, e], fun i hi => ⟨CM_cong (g i hi).1 (fun j k q1 q2 => h4 j k (by omega) (by have := Nat.mod_lt (f + 10 - u + i) (show 0 < 10 by decide); omega)), fun k hk => by rw [h5]; exact (g i hi).2.1 k hk, (g i hi).2.2⟩⟩
theorem RI_cong {Mc Md Mc' Md' : Mm} {τ : Nat → Nat} (h : RI Mc Md τ) (h1 : ∀ k, Mc'.1 50 k = Mc.1 50 k) (h2 : ∀ k, Md'.1 8 k = Md.1 8 k) (h3 : ∀ j k, 72 ≤ j → j < 80 → Mc'.1 j k = Mc.1 j k) (h4 : ∀ k, Md'.1 7 k = Md.1 7 k) : RI Mc' Md' τ := by
  intro i hi
  obtain ⟨b, e1, e2, e3⟩ := h i hi
  refine ⟨b, by rw [h1, e1], by rw [h2, e2], fun hb => ?_⟩
  obtain ⟨κ, g1, g2, g3⟩ := e3 hb
  exact ⟨κ, CM_cong g1 (fun j k q1 q2 => h3 j k (by omega) (by omega)), fun k hk => by rw [h4]; exact g2 k hk, g3⟩
theorem RS_cong {Mc Md Mc' Md' : Mm} {τ : Nat → Nat} (h : RS Mc Md τ) (h1 : Mc'.1 61 2 = Mc.1 61 2) (h2 : Md'.1 0 21 = Md.1 0 21) (h3 : ∀ k, Mc'.1 62 k = Mc.1 62 k) (h4 : ∀ k, Mc'.1 63 k = Mc.1 63 k) (h5 : ∀ k, Md'.1 10 k = Md.1 10 k) (h6 : ∀ k, Md'.1 11 k = Md.1 11 k) : RS Mc' Md' τ := by
  obtain ⟨n, sw, sb, a, b, c, d⟩ := h
  exact ⟨n, sw, sb, a, by rw [h1, b], by rw [h2, c], fun i hi => by rw [h3, h4, h5, h6]; exact d i hi⟩
theorem RT_cong {t : Nat} {Mc Md Mc' Md' : Mm} {τ : Nat → Nat} (h : RT t Mc Md τ) (h1 : ∀ k, Mc'.1 0 k = Mc.1 0 k) (h2 : ∀ j k, t ≤ j → j ≤ t + 3 → Mc'.1 j k = Mc.1 j k) (h3 : ∀ k, k < 4 → Md'.1 2 k = Md.1 2 k) (h4 : ∀ k, k < 5 → Md'.1 4 k = Md.1 4 k) (h5 : ∀ k, k < 5 → Md'.1 5 k = Md.1 5 k) : RT t Mc' Md' τ := by
  obtain ⟨a, ⟨b1, b2, b3, b4, b5, b6, b7⟩, c, d1, d2, d3, d4, d5⟩ := h
  have h5' := a.2.2.1
  refine ⟨a, ⟨b1, by rw [h1, b2], by rw [h2 t 4 (by omega) (by omega), b3], by rw [h2 t 5 (by omega) (by omega), b4], by rw [h2 t 6 (by omega) (by omega), b5], by rw [h2 t 7 (by omega) (by omega), b6], fun w hw => ?_⟩, by rw [h1, c], by rw [h3 0 (by decide), d1], by rw [h3 1 (by decide), d2], by rw [h3 2 (by decide), d3], by rw [h3 3 (by decide), d4], fun w hw => ?_⟩
  · rw [h2 (t + 2) w (by omega) (by omega), h2 (t + 3) w (by omega) (by omega)]
    exact b7 w hw
  · rw [h4 w (by omega), h5 w (by omega)]
    exact d5 w hw
theorem RN_cong {Mc Md Mc' Md' : Mm} {τ μ : Nat → Nat} (h : RN Mc Md τ μ) (h1 : ∀ j k, 3 ≤ j → j ≤ 6 → Mc'.1 j k = Mc.1 j k) (h2 : ∀ k, Md'.1 6 k = Md.1 6 k) : RN Mc' Md' τ μ :=
  ⟨CM_cong h.1 h1, fun k hk => by rw [h2]; exact h.2.1 k hk, h.2.2⟩
/-- places of the class that the relation doesn't look at: what the text is read with, the filling, the draft -/
def IC (t a k : Nat) : Prop := (a = 1 ∧ k ≠ 1) ∨ (51 ≤ a ∧ a ≤ 60) ∨ (132 - t ≤ a ∧ a ≤ 132 - t + 3)
def IM (a k : Nat) : Prop := (a = 0 ∧ k ≠ 3 ∧ k ≠ 18 ∧ k ≠ 21) ∨ (a = 2 ∧ 4 ≤ k) ∨ a = 3 ∨ ((a = 4 ∨ a = 5) ∧ 5 ≤ k) ∨ 12 ≤ a
theorem isT_2 {t : Nat} (h : isT t = true) : t = 64 ∨ t = 68 := by simpa [isT] using h
theorem RelT.cong {t : Nat} {τ μ : Nat → Nat} {Mc Md Mc' Md' : Mm} (h : RelT t τ μ Mc Md) (hc : ∀ a k, ¬ IC t a k → Mc'.1 a k = Mc.1 a k) (hm : ∀ a k, ¬ IM a k → Md'.1 a k = Md.1 a k) (h2 : Mc'.2 = Mc.2) (h3 : Md'.2 = Md.2) : RelT t τ μ Mc' Md' := by
  obtain ⟨a, b, c, d, e, f, g⟩ := h
  have ht := isT_2 a.2.1.1
  have hc' : ∀ a k, (a ≠ 1 ∨ k = 1) → (a < 51 ∨ 60 < a) → (a < 132 - t ∨ 132 - t + 3 < a) → Mc'.1 a k = Mc.1 a k := fun a k q1 q2 q3 => hc a k (by unfold IC; omega)
  have hm' : ∀ a k, (a ≠ 0 ∨ k = 3 ∨ k = 18 ∨ k = 21) → (a ≠ 2 ∨ k < 4) → a ≠ 3 → ((a ≠ 4 ∧ a ≠ 5) ∨ k < 5) → a < 12 → Md'.1 a k = Md.1 a k := fun a k q1 q2 q3 q4 q5 => hm a k (by unfold IM; omega)
  refine ⟨RT_cong a (fun k => hc' 0 k (by omega) (by omega) (by omega)) (fun j k q1 q2 => hc' j k (by omega) (by omega) (by omega)) (fun k hk => hm' 2 k (by omega) (by omega) (by omega) (by omega) (by omega)) (fun k hk => hm' 4 k (by omega) (by omega) (by omega) (by omega) (by omega)) (fun k hk => hm' 5 k (by omega) (by omega) (by omega) (by omega) (by omega)),
    RN_cong b (fun j k q1 q2 => hc' j k (by omega) (by omega) (by omega)) (fun k => hm' 6 k (by omega) (by omega) (by omega) (by omega) (by omega)),
    RX_cong c (hc' 1 1 (by omega) (by omega) (by omega)) (fun k => hc' 2 k (by omega) (by omega) (by omega)) (hm' 0 3 (by omega) (by omega) (by omega) (by omega) (by omega)) (fun k => hm' 1 k (by omega) (by omega) (by omega) (by omega) (by omega)),
    RU_cong d (hc' 7 1 (by omega) (by omega) (by omega)) (hc' 7 2 (by omega) (by omega) (by omega)) (hm' 0 18 (by omega) (by omega) (by omega) (by omega) (by omega)) (fun j k q1 q2 => hc' j k (by omega) (by omega) (by omega)) (fun k => hm' 9 k (by omega) (by omega) (by omega) (by omega) (by omega)),
    RI_cong e (fun k => hc' 50 k (by omega) (by omega) (by omega)) (fun k => hm' 8 k (by omega) (by omega) (by omega) (by omega) (by omega)) (fun j k q1 q2 => hc' j k (by omega) (by omega) (by omega)) (fun k => hm' 7 k (by omega) (by omega) (by omega) (by omega) (by omega)),
    RS_cong f (hc' 61 2 (by omega) (by omega) (by omega)) (hm' 0 21 (by omega) (by omega) (by omega) (by omega) (by omega)) (fun k => hc' 62 k (by omega) (by omega) (by omega)) (fun k => hc' 63 k (by omega) (by omega) (by omega)) (fun k => hm' 10 k (by omega) (by omega) (by omega) (by omega) (by omega)) (fun k => hm' 11 k (by omega) (by omega) (by omega) (by omega) (by omega)), by rw [h2, h3, g]⟩
/-- what the reference's thrown = 0 changes: nothing -/
theorem RelT.z {t : Nat} {τ μ : Nat → Nat} {Mc Md : Mm} (h : RelT t τ μ Mc Md) : RelT t τ μ Mc (wI Md 0 0 0) :=
  h.cong (fun _ _ _ => rfl) (fun a k hk => by
    by_cases e : a = 0
    · subst e
      rw [wI_k]
      intro q
      subst q
      exact hk (Or.inl ⟨rfl, by decide, by decide, by decide⟩)
    · rw [wI_a _ _ _ _ e]) rfl rfl
theorem Rel.z {Mc Md : Mm} (h : Rel Mc Md) : Rel Mc (wI Md 0 0 0) := by
  obtain ⟨t, τ, μ, h⟩ := h
  exact ⟨t, τ, μ, h.z⟩

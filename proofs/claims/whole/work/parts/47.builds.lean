/-! ===== builds ===== -/
theorem loop_inx {σ β : Type} (f : Nat → σ → Option β) (I : Nat → σ → Prop) (B : Nat) (P : β → Prop) (hend : ∀ n s, I B s → ∃ b, f (n + 1) s = some b ∧ P b) (hs : ∀ n k s, k < B → I k s → (∃ b, f (n + 1) s = some b ∧ P b) ∨ ∃ s', f (n + 1) s = f n s' ∧ I (k + 1) s') : ∀ (j n k : Nat) (s : σ), k + j = B → j < n → I k s → ∃ b, f n s = some b ∧ P b := by
  intro j
  induction j with
  | zero =>
    intro n k s hk hn hi
    obtain ⟨n', rfl⟩ : ∃ n', n = n' + 1 := ⟨n - 1, by omega⟩
    have : k = B := by omega
    subst this
    exact hend n' s hi
  | succ j ih =>
    intro n k s hk hn hi
    obtain ⟨n', rfl⟩ : ∃ n', n = n' + 1 := ⟨n - 1, by omega⟩
    rcases hs n' k s (by omega) hi with h | ⟨s', e, hi'⟩
    · exact h
    · rw [e]
      exact ih n' (k + 1) s' (by omega) (by omega) hi'
theorem loop_inx0 {σ β : Type} (f : Nat → σ → Option β) (I : Nat → σ → Prop) (B : Nat) (P : β → Prop) {n : Nat} (hn : B < n) {s : σ} (h0 : I 0 s) (hend : ∀ n s, I B s → ∃ b, f (n + 1) s = some b ∧ P b) (hs : ∀ n k s, k < B → I k s → (∃ b, f (n + 1) s = some b ∧ P b) ∨ ∃ s', f (n + 1) s = f n s' ∧ I (k + 1) s') : ∃ b, f n s = some b ∧ P b :=
  loop_inx f I B P hend hs B n 0 s (by omega) hn h0
def buildN (μ : Nat → Nat) (p f k : Nat) : Nat → Nat := fun i => if i = 7 + p then p else if 7 ≤ i ∧ i < 7 + k ∧ μ i = μ (7 + p) then f else if i = 1 + p then 0 else μ i
/-- the other rooms of p -/
def oth (μ : Nat → Nat) (p k : Nat) : Bool := decide (k < 6) && ((μ (7 + k) == μ (7 + p)) && decide (k ≠ p))
def isF (μ : Nat → Nat) (p f : Nat) : Prop := f ≤ 6 ∧ (∀ k, k < f → oth μ p k = false) ∧ (f < 6 → oth μ p f = true)
theorem wo_b (a p k : Nat) : (wo a p).testBit k = (decide (k < 6) && (a.testBit k && decide (k ≠ p))) := mk_bit _ 6 k
theorem wo_lt (a p : Nat) : wo a p < 64 := mk_lt6 _ (by decide)
theorem oth_b (μ : Nat → Nat) (p k : Nat) : (wo (jm μ p) p).testBit k = oth μ p k := by
  rw [wo_b, jm_b]
  unfold oth
  cases decide (k < 6) <;> simp
theorem build_e (μ : Nat → Nat) (p f : Nat) {k : Nat} (hk : k < 6) (hp : p < 6) : buildN μ p f 6 (7 + k) = if k = p then p else if μ (7 + k) = μ (7 + p) then f else μ (7 + k) := by
  unfold buildN
  by_cases e : k = p
  · rw [if_pos e, if_pos (by omega)]
  · rw [if_neg e, if_neg (by omega)]
    by_cases z : μ (7 + k) = μ (7 + p)
    · rw [if_pos z, if_pos ⟨by omega, by omega, z⟩]
    · rw [if_neg z, if_neg (fun y => z y.2.2), if_neg (by omega)]
theorem build_1 (μ : Nat → Nat) (p f : Nat) {r : Nat} (hr : r < 6) (hp : p < 6) : buildN μ p f 6 (1 + r) = if r = p then 0 else μ (1 + r) := by
  unfold buildN
  rw [if_neg (by omega), if_neg (by omega)]
  by_cases e : r = p
  · rw [if_pos e, if_pos (by omega)]
  · rw [if_neg e, if_neg (by omega)]
theorem build_o (μ : Nat → Nat) (p f : Nat) {i : Nat} (hp : p < 6) (hi : i = 0 ∨ 12 < i) : buildN μ p f 6 i = μ i := by
  unfold buildN
  rw [if_neg (by omega), if_neg (by omega), if_neg (by omega)]
theorem isF_l {τ μ : Nat → Nat} (hI : MI τ μ) {p f k : Nat} (hf : isF μ p f) (hp : p < 6) (hk : k < 6) (hkp : k ≠ p) (hl : μ (7 + k) = μ (7 + p)) : f ≤ k ∧ f < 6 ∧ f ≠ p ∧ μ (7 + f) = μ (7 + p) := by
  have ho : oth μ p k = true := by simp [oth, hk, hl, hkp]
  have h1 : f ≤ k := by
    rcases Nat.lt_or_ge k f with z | z
    · have := hf.2.1 k z
      rw [ho] at this
      cases this
    · exact z
  have h2 := hf.2.2 (by omega)
  simp [oth] at h2
  exact ⟨h1, by omega, h2.2.2, h2.2.1⟩
theorem isF_p {μ : Nat → Nat} {p f : Nat} (hf : isF μ p f) (hp : p < 6) : f ≠ p := by
  intro e
  have := hf.2.2 (by omega)
  simp [oth, e] at this
theorem build_jm {τ μ : Nat → Nat} (hI : MI τ μ) {p f r : Nat} (hp : p < 6) (hf : isF μ p f) (hr : r < 6) : jm (buildN μ p f 6) r = if r = p then 2 ^ p else wo (jm μ r) p := by
  have p3 := hI.2.2.1 p hp
  have r3 := hI.2.2.1 r hr
  have hfp := isF_p hf hp
  refine bits_ext (jm_lt _ _) (by split; exact pow2_lt hp; exact wo_lt _ _) (fun k hk => ?_)
  have k3 := hI.2.2.1 k hk
  have key : ∀ j, j < 6 → μ (7 + j) = p → μ (7 + j) = μ (7 + p) := fun j hj z => by
    have := (hI.2.2.1 j hj).2
    rw [z] at this
    omega
  rw [jm_b, build_e _ _ _ hk hp, build_e _ _ _ hr hp]
  by_cases e : r = p
  · subst e
    rw [if_pos rfl, if_pos rfl, Nat.testBit_two_pow]
    by_cases e2 : k = r
    · simp [e2, hr]
    · rw [if_neg e2]
      by_cases z : μ (7 + k) = μ (7 + r)
      · simp [z, hk, hfp, show ¬ r = k from fun q => e2 q.symm]
      · have : ¬ μ (7 + k) = r := fun q => z (key k hk q)
        simp [z, this, show ¬ r = k from fun q => e2 q.symm]
  · rw [if_neg e, if_neg e, wo_b, jm_b]
    by_cases zr : μ (7 + r) = μ (7 + p)
    · obtain ⟨f1, f2, f3, f4⟩ := isF_l hI hf hp hr e zr
      rw [if_pos zr]
      by_cases e2 : k = p
      · simp [e2, show ¬ p = f from fun q => hfp q.symm]
      · rw [if_neg e2]
        by_cases z : μ (7 + k) = μ (7 + p)
        · simp [z, hk, zr, e2]
        · have h1 : ¬ μ (7 + k) = f := fun q => z (by
            have := k3.2
            rw [q, f4] at this
            omega)
          simp [zr, beq_false_of_ne h1, beq_false_of_ne z]
          exact fun _ => ⟨z, h1⟩
    · rw [if_neg zr]
      have hpr : ¬ p = μ (7 + r) := fun q => zr (key r hr q.symm)
      by_cases e2 : k = p
      · simp [e2, hpr]
      · rw [if_neg e2]
        by_cases z : μ (7 + k) = μ (7 + p)
        · obtain ⟨f1, f2, f3, f4⟩ := isF_l hI hf hp hk e2 z
          have h1 : ¬ f = μ (7 + r) := fun q => zr (by
            have := r3.2
            rw [← q, f4] at this
            omega)
          have h2 : ¬ μ (7 + p) = μ (7 + r) := fun q => zr q.symm
          simp [z, beq_false_of_ne h1, beq_false_of_ne h2]
        · simp [z, hk, e2]
theorem build_MI {τ μ : Nat → Nat} (hT : TI τ) (hI : MI τ μ) {p f : Nat} (hp : p < τ 0) (hf : isF μ p f) : MI τ (buildN μ p f 6) := by
  have h60 := hT.1
  have hp6 : p < 6 := by omega
  have hI' := hI
  obtain ⟨h1, h2, h3, h4, h5, h6, h7⟩ := hI
  have p3 := h3 p hp6
  have key : ∀ j, j < 6 → μ (7 + j) = p → μ (7 + j) = μ (7 + p) := fun j hj z => by
    have := (h3 j hj).2
    rw [z] at this
    omega
  refine ⟨by rw [build_o _ _ _ hp6 (by omega)]; exact h1, fun r hr => ?_, fun r hr => ?_, fun r q1 q2 => ?_, ⟨by rw [build_o _ _ _ hp6 (by omega)]; exact h5.1, fun c hc => ?_⟩, ⟨by rw [build_o _ _ _ hp6 (by omega)]; exact h6.1, fun c hc => ?_⟩, fun c hc => by rw [build_o _ _ _ hp6 (by omega)]; exact h7 c hc⟩
  · have := h2 r hr
    rw [build_1 _ _ _ hr hp6, build_o _ _ _ hp6 (by omega)]
    split <;> omega
  · have r3 := h3 r hr
    by_cases e : r = p
    · have er : buildN μ p f 6 (7 + r) = p := by rw [build_e _ _ _ hr hp6, if_pos e]
      rw [er, build_e _ _ _ hp6 hp6, if_pos rfl]
      omega
    · by_cases z : μ (7 + r) = μ (7 + p)
      · obtain ⟨f1, f2, f3, f4⟩ := isF_l hI' hf hp6 hr e z
        have er : buildN μ p f 6 (7 + r) = f := by rw [build_e _ _ _ hr hp6, if_neg e, if_pos z]
        rw [er, build_e _ _ _ f2 hp6, if_neg f3, if_pos f4]
        omega
      · have er : buildN μ p f 6 (7 + r) = μ (7 + r) := by rw [build_e _ _ _ hr hp6, if_neg e, if_neg z]
        rw [er, build_e _ _ _ (by omega) hp6, if_neg (fun q => z (key r hr q)), r3.2, if_neg z]
        omega
  · have r4 := h4 r q1 q2
    rw [build_e _ _ _ q2 hp6, if_neg (by omega), if_neg (by omega), r4]
  · rw [build_o _ _ _ hp6 (by omega)] at hc
    exact h5.2 c hc
  · rw [build_o _ _ _ hp6 (by omega)] at hc
    rw [build_o _ _ _ hp6 (by omega), build_o _ _ _ hp6 (by omega)]
    exact h6.2 c hc
theorem alone_dec : ∀ m, m < 64 → ∀ p, p < 6 → m.testBit p = true → (cn 6 m.testBit = 1 ↔ m = 2 ^ p) := by decide +kernel
theorem c_anew {M0 : Mm} {τ μ : Nat → Nat} (hm : CM τ 3 M0 μ) (hI : MI τ μ) {p f : Nat} (hp : p < 6) (hf : isF μ p f) : ∃ M', fX1_buildAnew 3 (nI p) M0 = some M' ∧ far M0 M' ∧ CM τ 3 M' (buildN μ p f 6) := by
  obtain ⟨b, hb, h1, h2, h3, h4⟩ := loop_inv0 (fun m (s : Int32 × Mm) => fX1_buildAnew_L2 3 (nI p) m s.1 s.2) (fun k s => s.1 = nI k ∧ far M0 s.2 ∧ (∀ j i, j ≠ 5 → s.2.1 j i = M0.1 j i) ∧ ∀ r, r < 6 → s.2.1 5 r = nI (if r < k then wo (jm μ r) p else jm μ r)) 6 (fun b => b.1 = nI 6 ∧ far M0 b.2 ∧ (∀ j i, j ≠ 5 → b.2.1 j i = M0.1 j i) ∧ ∀ r, r < 6 → b.2.1 5 r = nI (wo (jm μ r) p)) (n := 50000) (s := (nI 0, M0)) (by omega) ⟨rfl, far.r _, fun _ _ _ => rfl, fun r hr => by rw [if_neg (by omega)]; exact hm.2.2.2.2.1 r hr⟩
    (fun n s hs => by
      obtain ⟨x, M⟩ := s
      obtain ⟨s1, s2, s3, s4⟩ := hs
      dsimp only at s1 s2 s3 s4
      subst s1
      dsimp only
      rw [fX1_buildAnew_L2, if_pos (show (6 : Int32) ≤ nI 6 by decide)]
      exact ⟨_, rfl, rfl, s2, s3, fun r hr => by rw [s4 r hr, if_pos hr]⟩)
    (fun n k s hk hs => by
      obtain ⟨x, M⟩ := s
      obtain ⟨s1, s2, s3, s4⟩ := hs
      dsimp only at s1 s2 s3 s4
      subst s1
      have hl : M.1 (3 + 2) k = nI (jm μ k) := by
        have := s4 k hk
        rw [if_neg (by omega)] at this
        exact this
      dsimp only
      rw [fX1_buildAnew_L2, if_neg (show ¬ (6 : Int32) ≤ nI k from nI_ge (b := 6) hk (by decide)), ix_ok hk (by decide), bit_ok (by omega), bP_s, ix_ok hk (by decide), nI_clamp (by omega), hl, wo_ok (jm_lt _ _) hp, lt_eq, nI_1]
      refine ⟨(nI (k + 1), wI M (3 + 2) k (nI (wo (jm μ k) p))), rfl, rfl, s2.w (by omega), fun j i hj => by rw [wI_a _ _ _ _ hj, s3 j i hj], fun r hr => ?_⟩
      dsimp only
      by_cases e : r = k
      · subst e
        rw [wI_v, if_pos (by omega)]
      · rw [wI_k _ _ _ _ e, s4 r hr]
        by_cases z : r < k
        · rw [if_pos z, if_pos (by omega)]
        · rw [if_neg z, if_neg (by omega)])
  obtain ⟨b1, b2⟩ := b
  dsimp only at h1 h2 h3 h4 hb
  subst h1
  unfold fX1_buildAnew
  rw [show (0 : Int32) = nI 0 from rfl, hb, b2_s, bit_ok (by omega), bP_s, ix_ok hp (by decide), nI_clamp (by omega), lt_eq, ix_ok hp (by decide), lt_eq]
  refine ⟨_, rfl, (h2.w (by omega)).w (by omega), ?_⟩
  obtain ⟨m1, m2, m3, m4, m5, m6⟩ := hm
  refine ⟨?_, ?_, ?_, fun r hr => ?_, fun r hr => ?_, fun r hr hbt => ?_⟩
  · rw [wI_a _ _ _ _ (by decide), wI_a _ _ _ _ (by decide), h3 _ _ (by decide), build_o _ _ _ hp (by omega), m1]
  · rw [wI_a _ _ _ _ (by decide), wI_a _ _ _ _ (by decide), h3 _ _ (by decide), build_o _ _ _ hp (by omega), m2]
  · rw [wI_a _ _ _ _ (by decide), wI_a _ _ _ _ (by decide), h3 _ _ (by decide), build_o _ _ _ hp (by omega), m3]
  · rw [build_1 _ _ _ hr.1 hp]
    by_cases e : r = p
    · subst e
      rw [wI_v, if_pos rfl]
    · rw [wI_k _ _ _ _ e, wI_a _ _ _ _ (by decide), h3 _ _ (by decide), if_neg e, m4 r hr]
  · rw [wI_a _ _ _ _ (by decide), build_jm hI hp hf hr]
    by_cases e : r = p
    · subst e
      rw [wI_v, if_pos rfl]
    · rw [wI_k _ _ _ _ e, if_neg e]
      exact h4 r hr
  · rw [build_o _ _ _ hp (by omega)] at hbt
    rw [wI_a _ _ _ _ (by decide), wI_a _ _ _ _ (by decide), h3 _ _ (by decide), build_o _ _ _ hp (by omega), m6 r hr hbt]
theorem m_first {μ : Nat → Nat} {p : Nat} (hp : p < 6) : ∃ f, fX7_builds_L70 (nI p) (nI (jm μ p)) 50000 0 = some (nI f) ∧ isF μ p f := by
  have em : nI (jm μ p) &&& (((1 : Int32) <<< (nI p &&& 31)) ^^^ (-1 : Int32)) = nI (wo (jm μ p) p) := by rw [s_bit 0 p (by omega), wo_ok (jm_lt _ _) hp]
  obtain ⟨b, hb, h1⟩ := loop_inx0 (fun m (s : Int32) => fX7_builds_L70 (nI p) (nI (jm μ p)) m s) (fun k s => s = nI k ∧ ∀ j, j < k → oth μ p j = false) 6 (fun b => ∃ f, b = nI f ∧ isF μ p f) (n := 50000) (s := nI 0) (by omega) ⟨rfl, fun j hj => absurd hj (by omega)⟩
    (fun n s hs => by
      obtain ⟨s1, s2⟩ := hs
      subst s1
      rw [fX7_builds_L70, if_pos (show (6 : Int32) ≤ nI 6 by decide)]
      exact ⟨_, rfl, 6, rfl, by omega, s2, fun q => absurd q (by omega)⟩)
    (fun n k s hk hs => by
      obtain ⟨s1, s2⟩ := hs
      subst s1
      rw [fX7_builds_L70, if_neg (show ¬ (6 : Int32) ≤ nI k from nI_ge (b := 6) hk (by decide)), em, mhas_ok (wo_lt _ _) hk, bP_s, oth_b, nI_1]
      rcases Bool.eq_false_or_eq_true (oth μ p k) with q | q
      · left
        rw [q, if_neg (show ¬ b2i true = 0 by decide)]
        exact ⟨_, rfl, k, rfl, by omega, s2, fun _ => q⟩
      · right
        rw [q, if_pos (show b2i false = 0 by decide)]
        refine ⟨nI (k + 1), rfl, rfl, fun j hj => ?_⟩
        by_cases e : j = k
        · rw [e, q]
        · exact s2 j (by omega))
  obtain ⟨f, rfl, hf⟩ := h1
  exact ⟨f, hb, hf⟩
/-- the labels alone -/
def lblN (ν μ : Nat → Nat) (p f k : Nat) : Nat → Nat := fun i => if 7 ≤ i ∧ i < 7 + k ∧ oth μ p (i - 7) = true then f else ν i
theorem lbl_s (ν μ : Nat → Nat) (p f k : Nat) : uN (lblN ν μ p f k) (7 + k) (if oth μ p k = true then f else ν (7 + k)) = lblN ν μ p f (k + 1) := by
  funext i
  simp only [uN, lblN]
  by_cases e : i = 7 + k
  · subst e
    rw [if_pos rfl, Nat.add_sub_cancel_left]
    by_cases z : oth μ p k = true
    · rw [if_pos z, if_pos ⟨by omega, by omega, z⟩]
    · rw [if_neg z, if_neg (fun y => z y.2.2)]
  · rw [if_neg e]
    by_cases z : 7 ≤ i ∧ i < 7 + k ∧ oth μ p (i - 7) = true
    · rw [if_pos z, if_pos ⟨z.1, by omega, z.2.2⟩]
    · rw [if_neg z, if_neg (fun y => z ⟨y.1, by omega, y.2.2⟩)]
theorem m_lblL {M0 : Mm} {τ μ ν : Nat → Nat} (hm : MMr (M0.1 6) ν) {p f : Nat} (hp : p < 6) : ∃ M', fX7_builds_L96 (nI p) (nI (jm μ p)) (nI f) 50000 0 M0 = some (nI 6, M') ∧ far6 M0 M' ∧ MMr (M'.1 6) (lblN ν μ p f 6) := by
  have em : nI (jm μ p) &&& (((1 : Int32) <<< (nI p &&& 31)) ^^^ (-1 : Int32)) = nI (wo (jm μ p) p) := by rw [s_bit 0 p (by omega), wo_ok (jm_lt _ _) hp]
  obtain ⟨b, hb, g1, g2, g3⟩ := loop_inv0 (fun m (s : Int32 × Mm) => fX7_builds_L96 (nI p) (nI (jm μ p)) (nI f) m s.1 s.2) (fun k s => s.1 = nI k ∧ far6 M0 s.2 ∧ MMr (s.2.1 6) (lblN ν μ p f k)) 6 (fun b => b.1 = nI 6 ∧ far6 M0 b.2 ∧ MMr (b.2.1 6) (lblN ν μ p f 6)) (n := 50000) (s := (nI 0, M0)) (by omega) ⟨rfl, far6.r _, MM_ext hm (fun k _ => (if_neg (by omega)).symm)⟩
    (fun n s hs => by
      obtain ⟨x, M⟩ := s
      obtain ⟨s1, s2, s3⟩ := hs
      dsimp only at s1 s2 s3
      subst s1
      dsimp only
      rw [fX7_builds_L96, if_pos (show (6 : Int32) ≤ nI 6 by decide)]
      exact ⟨_, rfl, rfl, s2, s3⟩)
    (fun n k s hk hs => by
      obtain ⟨x, M⟩ := s
      obtain ⟨s1, s2, s3⟩ := hs
      dsimp only at s1 s2 s3
      subst s1
      have hl : M.1 6 (7 + k) = nI (ν (7 + k)) := by rw [s3 _ (by omega)]; exact congrArg nI (if_neg (by omega))
      dsimp only
      rw [fX7_builds_L96, if_neg (show ¬ (6 : Int32) ≤ nI k from nI_ge (b := 6) hk (by decide)), em, mhas_ok (wo_lt _ _) hk, bP_s, oth_b, show (7 : Int32) = nI 7 from rfl, nI_add, ix_ok (by omega) (by decide), ix_ok (by omega) (by decide), nI_clamp (by omega), hl, nI_1, lt_eq, lt_eq]
      rcases Bool.eq_false_or_eq_true (oth μ p k) with q | q
      · rw [q, if_neg (show ¬ b2i true = 0 by decide), ix_ok (by omega) (by decide)]
        refine ⟨(nI (k + 1), wI M 6 (7 + k) (nI f)), rfl, rfl, s2.w, ?_⟩
        rw [← lbl_s, if_pos q]
        exact MM_w s3
      · rw [q, if_pos (show b2i false = 0 by decide)]
        refine ⟨(nI (k + 1), wI M 6 (7 + k) (nI (ν (7 + k)))), rfl, rfl, s2.w, ?_⟩
        rw [← lbl_s, if_neg (by rw [q]; decide)]
        exact MM_w s3)
  obtain ⟨b1, b2⟩ := b
  dsimp only at g1 g2 g3 hb
  subst g1
  exact ⟨b2, hb, g2, g3⟩
theorem R_anew {t : Nat} {τ μ : Nat → Nat} {Mc Mz : Mm} (hz : RelT t τ μ Mc Mz) {p : Nat} (hp : p < τ 0) : ∃ Nc Mc' Md', fX2_remember 3 Mc = some Nc ∧ fX1_buildAnew 3 (nI p) Nc = some Mc' ∧ fX7_builds_B45 (nI p) Mz (nI (jm μ p)) = some (nI (μ (1 + p)), Md') ∧ Rel Mc' Md' := by
  have hT := hz.1.1
  have h60 := hT.1
  have hp6 : p < 6 := by omega
  have hI := hz.2.1.2.2
  obtain ⟨Nc, Nd, n1, n2, hn⟩ := R_rem hz
  obtain ⟨f, f1, f2⟩ := m_first (μ := μ) hp6
  obtain ⟨C1, c1, c2, c3⟩ := c_anew hn.2.1.1 hI hp6 f2
  have w0 : far6 Nd (wI Nd 6 (1 + p) (nI 0)) := far6.w (far6.r Nd)
  obtain ⟨D1, d1, d2, d3⟩ := m_lblL (τ := τ) (μ := μ) (f := f) (MM_w hn.2.1.2.1 (k := 1 + p) (v := 0)) hp6
  refine ⟨Nc, C1, wI D1 6 (7 + p) (nI p), n1, c1, ?_, t, τ, buildN μ p f 6, hn.now (fun j k q => c2.2 j k q) (fun j k q => ?_) ⟨c3, ?_, build_MI hT hI hp f2⟩ c2.1 (d2.1.trans w0.1)⟩
  · unfold fX7_builds_B45
    rw [n2, bP_s, show (1 : Int32) = nI 1 from rfl, nI_add, ix_ok (by omega) (by decide), nI_clamp (by omega), lt_eq, f1, bP_s, show ((0 : Int32)) = nI 0 from rfl, show (50000 : Nat) = 50000 from rfl]
    have d1' := d1
    rw [show ((0 : Int32)) = nI 0 from rfl] at d1'
    rw [d1', b2_s, show (7 : Int32) = nI 7 from rfl, nI_add, ix_ok (by omega) (by decide), nI_clamp (by omega), lt_eq, hz.2.1.2.1 (1 + p) (by omega)]
  · rw [wI_a _ _ _ _ q, d2.2 j k q, w0.2 j k q]
  · refine MM_ext (MM_w d3) (fun i hi => ?_)
    simp only [uN, lblN, buildN]
    by_cases e1 : i = 7 + p
    · rw [if_pos e1, if_pos e1]
    · rw [if_neg e1, if_neg e1]
      have ho : 7 ≤ i ∧ i < 7 + 6 → (oth μ p (i - 7) = true ↔ μ i = μ (7 + p)) := fun q => by
        unfold oth
        rw [show 7 + (i - 7) = i by omega]
        simp
        omega
      by_cases e2 : 7 ≤ i ∧ i < 7 + 6 ∧ μ i = μ (7 + p)
      · rw [if_pos e2, if_pos ⟨e2.1, e2.2.1, (ho ⟨e2.1, e2.2.1⟩).mpr e2.2.2⟩]
      · rw [if_neg e2, if_neg (fun y => e2 ⟨y.1, y.2.1, (ho ⟨y.1, y.2.1⟩).mp y.2.2⟩)]
theorem R_builds {Mc Md : Mm} (h : Rel Mc Md) (p : Int32) : ∃ r Mc' Md', fX6_builds p Mc = some (r, Mc') ∧ fX7_builds p Md = some (r, Md') ∧ Rel Mc' Md' := by
  obtain ⟨t, τ, μ, h⟩ := h
  have hz := h.z
  have hT := h.1.1
  have h60 := hT.1
  have hI := h.2.1.2.2
  unfold fX6_builds fX7_builds
  rw [lt_eq, c_isRoom hT h.1.2.1, m_isRoom hT hz.1.2.2.2, bP_s, bP_s]
  generalize wI Md 0 0 0 = Mz at *
  rcases isX_cases (τ 0) (by omega) p with ⟨p, hp, rfl, hb⟩ | ⟨hb, hx⟩
  · have hp6 : p < 6 := by omega
    have ho := MI_old hI (r := p) hp6
    have hbp : (jm μ p).testBit p = true := by rw [jm_b]; simp [hp6]
    have hal := alone_dec (jm μ p) (jm_lt _ _) p hp6 hbp
    obtain ⟨Nc, C1, D1, n1, c1, d1, hR⟩ := R_anew hz hp
    have p2 := pow2_lt hp6
    have jl := jm_lt μ p
    have hcn := cn_le (jm μ p).testBit 6
    rw [hb, if_neg (show ¬ b2i true = 0 by decide), if_neg (show ¬ b2i true = 0 by decide), ix_ok hp6 (by decide), ix_ok hp6 (by decide), nI_clamp (by omega), show Mc.1 4 p = nI (μ (1 + p)) from h.2.1.1.2.2.2.1 p ⟨hp6, hp⟩, show Mc.1 5 p = nI (jm μ p) from h.2.1.1.2.2.2.2.1 p hp6, bit_ok (by omega), bP_s, n1, bP_s, c1, bP_s, m_joinedWith hT hz.1.2.2.2 hz.2.1.2.1 hI hp, bP_s, d1, show (1 : Int32) = nI 1 from rfl, nI_add, ix_ok (by omega) (by decide), nI_clamp (by omega), hz.2.1.2.1 (1 + p) (by omega), ones_ok jl, bP_s]
    by_cases z : nI (μ (1 + p)) = 0
    · rw [if_pos z, if_pos z]
      by_cases y : jm μ p = 2 ^ p
      · rw [if_pos (by rw [y]), if_pos (by rw [hal.mpr y])]
        exact ⟨_, _, _, rfl, rfl, t, τ, μ, hz⟩
      · rw [if_neg (fun q => y ((nI_eq (by omega) (by omega)).mp q)), if_neg (fun q => y (hal.mp ((nI_eq (by omega) (by omega)).mp q)))]
        exact ⟨_, _, _, rfl, rfl, hR⟩
    · rw [if_neg z, if_neg z]
      exact ⟨_, _, _, rfl, rfl, hR⟩
  · rw [hb, if_pos (show b2i false = 0 by decide), if_pos (show b2i false = 0 by decide)]
    exact ⟨_, _, _, rfl, rfl, t, τ, μ, hz⟩

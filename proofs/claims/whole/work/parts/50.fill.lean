/-! ===== who does what: the best filling, two ways ===== -/
def frB (cf : Nat → Nat) (c w tk : Nat) : Bool := (cf c).testBit w && !tk.testBit w
def mx (cf : Nat → Nat) (c tk : Nat) (f : Nat → Nat) : Nat → Nat
  | 0 => f tk
  | k + 1 => if frB cf c k tk = true then Nat.max (mx cf c tk f k) (1 + f (tk ||| 2 ^ k)) else mx cf c tk f k
def Fi (cf : Nat → Nat) (W : Nat) : Nat → Nat → Nat → Nat
  | 0, _, _ => 0
  | j + 1, c, tk => mx cf c tk (fun t => Fi cf W j (c + 1) t) W
def isFst (P : Nat → Bool) (W d : Nat) : Prop := (d < W ∧ P d = true ∧ ∀ w, w < d → P w = false) ∨ (d = 5 ∧ ∀ w, w < W → P w = false)
theorem isFst_u {P : Nat → Bool} {W d e : Nat} (h : isFst P W d) (g : isFst P W e) : d = e := by
  rcases h with ⟨h1, h2, h3⟩ | ⟨h1, h2⟩ <;> rcases g with ⟨g1, g2, g3⟩ | ⟨g1, g2⟩
  · rcases Nat.lt_trichotomy d e with q | q | q
    · rw [g3 d q] at h2; cases h2
    · exact q
    · rw [h3 e q] at g2; cases g2
  · rw [g2 d h1] at h2; cases h2
  · rw [h2 e g1] at g2; cases g2
  · omega
def fwd (P : Nat → Bool) : Nat → Nat → Nat
  | 0, _ => 5
  | m + 1, k => if P k = true then k else fwd P m (k + 1)
theorem fwd_ok (P : Nat → Bool) : ∀ (m k W : Nat), k + m = W → (∀ w, w < k → P w = false) → isFst P W (fwd P m k)
  | 0, k, W, h, hk => Or.inr ⟨rfl, fun w hw => hk w (by omega)⟩
  | m + 1, k, W, h, hk => by
    rw [fwd]
    by_cases e : P k = true
    · rw [if_pos e]
      exact Or.inl ⟨by omega, e, hk⟩
    · rw [if_neg e]
      refine fwd_ok P m (k + 1) W (by omega) (fun w hw => ?_)
      by_cases q : w = k
      · rw [q]
        simpa using e
      · exact hk w (by omega)
def gP (cf : Nat → Nat) (W j c tk : Nat) (w : Nat) : Bool := frB cf c w tk && (1 + Fi cf W j (c + 1) (tk ||| 2 ^ w) == Fi cf W (j + 1) c tk)
def gw (cf : Nat → Nat) (W j c tk : Nat) : Nat := fwd (gP cf W j c tk) W 0
theorem gw_ok (cf : Nat → Nat) (W j c tk : Nat) : isFst (gP cf W j c tk) W (gw cf W j c tk) := fwd_ok _ W 0 W (by omega) (fun w hw => absurd hw (by omega))
def nxt (tk d : Nat) : Nat := if d = 5 then tk else tk ||| 2 ^ d
def Gi (cf : Nat → Nat) (W : Nat) : Nat → Nat → Nat → Nat
  | 0, _, _ => 0
  | j + 1, c, tk => gw cf W j c tk * 6 ^ j + Gi cf W j (c + 1) (nxt tk (gw cf W j c tk))
def Vi (cf : Nat → Nat) : Nat → Nat → Nat → Nat → Option Nat
  | 0, _, _, _ => some 0
  | j + 1, c, tk, x => if 5 ≤ x / 6 ^ j then Vi cf j (c + 1) tk (x % 6 ^ j) else if frB cf c (x / 6 ^ j) tk = true then (Vi cf j (c + 1) (tk ||| 2 ^ (x / 6 ^ j)) (x % 6 ^ j)).map (· + 1) else none
def isB (v : Nat → Option Nat) (N b x : Nat) : Prop := x < N ∧ v x = some b ∧ (∀ y k, y < N → v y = some k → k ≤ b) ∧ ∀ y k, y < x → v y = some k → k < b
theorem isB_u {v : Nat → Option Nat} {N b x b' x' : Nat} (h : isB v N b x) (g : isB v N b' x') : b = b' ∧ x = x' := by
  obtain ⟨h1, h2, h3, h4⟩ := h
  obtain ⟨g1, g2, g3, g4⟩ := g
  have e : b = b' := by
    have := h3 x' b' g1 g2
    have := g3 x b h1 h2
    omega
  refine ⟨e, ?_⟩
  rcases Nat.lt_trichotomy x x' with q | q | q
  · have := g4 x b q h2
    omega
  · exact q
  · have := h4 x' b' q g2
    omega
theorem mx_base (cf : Nat → Nat) (c tk : Nat) (f : Nat → Nat) : ∀ k, f tk ≤ mx cf c tk f k
  | 0 => Nat.le_refl _
  | k + 1 => by
    have := mx_base cf c tk f k
    rw [mx]
    split
    · exact Nat.le_trans this (Nat.le_max_left _ _)
    · exact this
theorem mx_ge (cf : Nat → Nat) (c tk : Nat) (f : Nat → Nat) : ∀ k w, w < k → frB cf c w tk = true → 1 + f (tk ||| 2 ^ w) ≤ mx cf c tk f k
  | 0, w, h, _ => absurd h (by omega)
  | k + 1, w, h, hb => by
    rw [mx]
    by_cases e : w = k
    · subst e
      rw [if_pos hb]
      exact Nat.le_max_right _ _
    · have := mx_ge cf c tk f k w (by omega) hb
      split
      · exact Nat.le_trans this (Nat.le_max_left _ _)
      · exact this
theorem mx_at (cf : Nat → Nat) (c tk : Nat) (f : Nat → Nat) : ∀ k, mx cf c tk f k = f tk ∨ ∃ w, w < k ∧ frB cf c w tk = true ∧ 1 + f (tk ||| 2 ^ w) = mx cf c tk f k
  | 0 => Or.inl rfl
  | k + 1 => by
    have ih := mx_at cf c tk f k
    rw [mx]
    by_cases e : frB cf c k tk = true
    · rw [if_pos e]
      rcases Nat.le_total (mx cf c tk f k) (1 + f (tk ||| 2 ^ k)) with q | q
      · exact Or.inr ⟨k, by omega, e, (Nat.max_eq_right q).symm⟩
      · have em : Nat.max (mx cf c tk f k) (1 + f (tk ||| 2 ^ k)) = mx cf c tk f k := Nat.max_eq_left q
        rw [em]
        rcases ih with z | ⟨w, w1, w2, w3⟩
        · exact Or.inl z
        · exact Or.inr ⟨w, by omega, w2, w3⟩
    · rw [if_neg e]
      rcases ih with z | ⟨w, w1, w2, w3⟩
      · exact Or.inl z
      · exact Or.inr ⟨w, by omega, w2, w3⟩
theorem G_ok {cf : Nat → Nat} {W : Nat} (hW : W ≤ 5) (hcf : ∀ c w, (cf c).testBit w = true → w < W) : ∀ j c tk, isB (Vi cf j c tk) (6 ^ j) (Fi cf W j c tk) (Gi cf W j c tk)
  | 0, c, tk => ⟨by simp [Gi], rfl, fun y k _ h => by simp [Vi] at h; simp [Fi, ← h], fun y k h => by simp [Gi] at h⟩
  | j + 1, c, tk => by
    have hp : 0 < 6 ^ j := Nat.pow_pos (by decide)
    have hg := gw_ok cf W j c tk
    have hF : Fi cf W (j + 1) c tk = mx cf c tk (fun t => Fi cf W j (c + 1) t) W := rfl
    have hb := mx_base cf c tk (fun t => Fi cf W j (c + 1) t) W
    rw [← hF] at hb
    have hge := fun w h1 h2 => mx_ge cf c tk (fun t => Fi cf W j (c + 1) t) W w h1 h2
    rw [← hF] at hge
    have hat := mx_at cf c tk (fun t => Fi cf W j (c + 1) t) W
    rw [← hF] at hat
    try dsimp only at hb
    try dsimp only at hge
    try dsimp only at hat
    -- the best of each first choice
    have hup : ∀ y k, y < 6 ^ (j + 1) → Vi cf (j + 1) c tk y = some k → k ≤ Fi cf W (j + 1) c tk ∧ (y / 6 ^ j < 5 → frB cf c (y / 6 ^ j) tk = true ∧ k ≤ 1 + Fi cf W j (c + 1) (tk ||| 2 ^ (y / 6 ^ j))) := by
      intro y k hy hv
      have hr := Nat.mod_lt y hp
      rw [Vi] at hv
      by_cases q : 5 ≤ y / 6 ^ j
      · rw [if_pos q] at hv
        have := (G_ok hW hcf j (c + 1) tk).2.2.1 _ _ hr hv
        exact ⟨by omega, fun z => absurd z (by omega)⟩
      · rw [if_neg q] at hv
        by_cases z : frB cf c (y / 6 ^ j) tk = true
        · rw [if_pos z] at hv
          have zb : (cf c).testBit (y / 6 ^ j) = true := by
            unfold frB at z
            exact (Bool.and_eq_true_iff.mp z).1
          obtain ⟨k', hv', rfl⟩ := Option.map_eq_some_iff.mp hv
          have := (G_ok hW hcf j (c + 1) _).2.2.1 _ _ hr hv'
          have := hge _ (hcf c _ zb) z
          exact ⟨by omega, fun _ => ⟨z, by omega⟩⟩
        · rw [if_neg z] at hv
          cases hv
    generalize hd : gw cf W j c tk = d at hg
    have hG : Gi cf W (j + 1) c tk = d * 6 ^ j + Gi cf W j (c + 1) (nxt tk d) := by rw [Gi, hd]
    have hd6 : d < 6 := by rcases hg with z | z <;> omega
    obtain ⟨i1, i2, i3, i4⟩ := G_ok hW hcf j (c + 1) (nxt tk d)
    have hdiv : Gi cf W (j + 1) c tk / 6 ^ j = d := by
      rw [hG, Nat.mul_comm, Nat.mul_add_div hp, Nat.div_eq_of_lt i1, Nat.add_zero]
    have hmod : Gi cf W (j + 1) c tk % 6 ^ j = Gi cf W j (c + 1) (nxt tk d) := by
      rw [hG, Nat.mul_comm, Nat.mul_add_mod, Nat.mod_eq_of_lt i1]
    have hlt : Gi cf W (j + 1) c tk < 6 ^ (j + 1) := by
      rw [hG, Nat.pow_succ]
      have : d * 6 ^ j ≤ 5 * 6 ^ j := Nat.mul_le_mul_right _ (by omega)
      omega
    have hval : Fi cf W (j + 1) c tk = (if d = 5 then 0 else 1) + Fi cf W j (c + 1) (nxt tk d) ∧ (d ≠ 5 → frB cf c d tk = true) := by
      rcases hg with ⟨g1, g2, g3⟩ | ⟨g1, g2⟩
      · unfold gP at g2
        obtain ⟨g4, g5⟩ := Bool.and_eq_true_iff.mp g2
        have g6 := eq_of_beq g5
        unfold nxt
        rw [if_neg (by omega), if_neg (by omega)]
        exact ⟨g6.symm, fun _ => g4⟩
      · subst g1
        unfold nxt
        rw [if_pos rfl, if_pos rfl]
        refine ⟨?_, fun z => absurd rfl z⟩
        rcases hat with z | ⟨w, w1, w2, w3⟩
        · omega
        · have := g2 w w1
          unfold gP at this
          rw [w2, w3] at this
          simp at this
    refine ⟨hlt, ?_, fun y k hy hv => (hup y k hy hv).1, fun y k hy hv => ?_⟩
    · rw [Vi, hdiv, hmod]
      by_cases q : d = 5
      · subst q
        have := hval.1
        unfold nxt at i2 this ⊢
        rw [if_pos rfl] at i2 this ⊢
        rw [if_pos rfl] at this
        rw [if_pos (by omega), i2, this, Nat.zero_add]
      · have hv1 := hval.1
        rw [if_neg q] at hv1
        unfold nxt at i2 hv1 ⊢
        rw [if_neg q] at i2 hv1 ⊢
        rw [if_neg (by omega), if_pos (hval.2 q), i2, hv1]
        exact congrArg some (Nat.add_comm _ _)
    · have hyl : y < 6 ^ (j + 1) := Nat.lt_trans hy hlt
      have hu := hup y k hyl hv
      have hyd : y / 6 ^ j ≤ d := by
        rw [← hdiv]
        exact Nat.div_le_div_right (Nat.le_of_lt hy)
      by_cases q : y / 6 ^ j = d
      · have hym : y % 6 ^ j < Gi cf W j (c + 1) (nxt tk d) := by
          have e1 := Nat.div_add_mod y (6 ^ j)
          rw [q] at e1
          rw [hG] at hy
          rw [Nat.mul_comm] at e1
          omega
        rw [Vi, q] at hv
        by_cases z : d = 5
        · subst z
          have h5 := hval.1
          unfold nxt at hym i4 h5
          rw [if_pos rfl] at hym i4 h5
          rw [if_pos rfl] at h5
          rw [if_pos (by omega)] at hv
          have := i4 _ _ hym hv
          omega
        · have h5 := hval.1
          unfold nxt at hym i4 h5
          rw [if_neg z] at hym i4 h5
          rw [if_neg z] at h5
          rw [if_neg (by omega), if_pos (hval.2 z)] at hv
          obtain ⟨k', hv', rfl⟩ := Option.map_eq_some_iff.mp hv
          have := i4 _ _ hym hv'
          omega
      · have hl5 : y / 6 ^ j < 5 := by omega
        obtain ⟨u1, u2⟩ := hu.2 hl5
        have hP : gP cf W j c tk (y / 6 ^ j) = false := by
          rcases hg with ⟨g1, g2, g3⟩ | ⟨g1, g2⟩
          · exact g3 _ (by omega)
          · refine g2 _ ?_
            refine hcf c _ ?_
            unfold frB at u1
            exact (Bool.and_eq_true_iff.mp u1).1
        unfold gP at hP
        rw [u1] at hP
        simp at hP
        have u3 := hge _ (hcf c _ (by
          unfold frB at u1
          exact (Bool.and_eq_true_iff.mp u1).1)) u1
        omega
theorem Fi_le (cf : Nat → Nat) (W : Nat) : ∀ j c tk, Fi cf W j c tk ≤ j
  | 0, _, _ => Nat.le_refl _
  | j + 1, c, tk => by
    have hF : Fi cf W (j + 1) c tk = mx cf c tk (fun t => Fi cf W j (c + 1) t) W := rfl
    rw [hF]
    rcases mx_at cf c tk (fun t => Fi cf W j (c + 1) t) W with z | ⟨w, -, -, z⟩
    · rw [z]
      have := Fi_le cf W j (c + 1) tk
      omega
    · rw [← z]
      have := Fi_le cf W j (c + 1) (tk ||| 2 ^ w)
      omega
def Bi (cf : Nat → Nat) : Nat → Nat → Nat → Option (Nat × Nat)
  | 0, _, _ => some (0, 0)
  | j + 1, c, x => match Bi cf j (c + 1) (x % 6 ^ j) with
    | none => none
    | some (n, m) => if 5 ≤ x / 6 ^ j then some (n, m) else if frB cf c (x / 6 ^ j) m = true then some (n + 1, m ||| 2 ^ (x / 6 ^ j)) else none
theorem B_V (cf : Nat → Nat) : ∀ j c tk x n, Vi cf j c tk x = some n ↔ ∃ m, Bi cf j c x = some (n, m) ∧ ∀ w, m.testBit w = true → tk.testBit w = false
  | 0, c, tk, x, n => by
    simp only [Vi, Bi]
    constructor
    · intro h
      exact ⟨0, by rw [← Option.some.inj h], fun w hw => by rw [Nat.zero_testBit] at hw; cases hw⟩
    · rintro ⟨m, h, -⟩
      exact congrArg some (Prod.mk.inj (Option.some.inj h)).1
  | j + 1, c, tk, x, n => by
    have ih := fun tk n => B_V cf j (c + 1) tk (x % 6 ^ j) n
    rw [Vi, Bi]
    generalize x / 6 ^ j = d
    by_cases q : 5 ≤ d
    · rw [if_pos q, ih]
      cases hb : Bi cf j (c + 1) (x % 6 ^ j) with
      | none => simp
      | some p => simp only [if_pos q]
    · rw [if_neg q]
      by_cases z : frB cf c d tk = true
      · obtain ⟨z1, z2⟩ := Bool.and_eq_true_iff.mp (show ((cf c).testBit d && !tk.testBit d) = true from z)
        have z3 : tk.testBit d = false := by simpa using z2
        rw [if_pos z, Option.map_eq_some_iff]
        constructor
        · rintro ⟨k, hk, rfl⟩
          obtain ⟨m, hm, hd⟩ := (ih _ _).mp hk
          have hmd : m.testBit d = false := by
            rcases Bool.eq_false_or_eq_true (m.testBit d) with y | y
            · have := hd d y
              rw [orb] at this
              simp at this
            · exact y
          refine ⟨m ||| 2 ^ d, ?_, fun w hw => ?_⟩
          · rw [hm]
            show (if 5 ≤ d then _ else _) = _
            rw [if_neg q, if_pos (by simp [frB, z1, hmd])]
          · rw [orb] at hw
            rcases Bool.or_eq_true_iff.mp hw with y | y
            · have := hd w y
              rw [orb] at this
              exact (Bool.or_eq_false_iff.mp this).1
            · rw [← of_decide_eq_true y]
              exact z3
        · rintro ⟨m, hm, hd⟩
          cases hb : Bi cf j (c + 1) (x % 6 ^ j) with
          | none => rw [hb] at hm; cases hm
          | some p =>
            obtain ⟨n', m'⟩ := p
            rw [hb] at hm
            have hm' : (if 5 ≤ d then some (n', m') else if frB cf c d m' = true then some (n' + 1, m' ||| 2 ^ d) else none) = some (n, m) := hm
            rw [if_neg q] at hm'
            by_cases y : frB cf c d m' = true
            · rw [if_pos y] at hm'
              obtain ⟨rfl, rfl⟩ := Prod.mk.inj (Option.some.inj hm')
              obtain ⟨y1, y2⟩ := Bool.and_eq_true_iff.mp (show ((cf c).testBit d && !m'.testBit d) = true from y)
              refine ⟨n', (ih _ _).mpr ⟨m', hb, fun w hw => ?_⟩, rfl⟩
              rw [orb]
              have h1 := hd w (by rw [orb, hw]; rfl)
              have h2 : ¬ d = w := fun e => by
                subst e
                rw [hw] at y2
                cases y2
              simp [h1, h2]
            · rw [if_neg y] at hm'
              cases hm'
      · rw [if_neg z]
        constructor
        · intro y
          cases y
        · rintro ⟨m, hm, hd⟩
          exfalso
          cases hb : Bi cf j (c + 1) (x % 6 ^ j) with
          | none => rw [hb] at hm; cases hm
          | some p =>
            obtain ⟨n', m'⟩ := p
            rw [hb] at hm
            have hm' : (if 5 ≤ d then some (n', m') else if frB cf c d m' = true then some (n' + 1, m' ||| 2 ^ d) else none) = some (n, m) := hm
            rw [if_neg q] at hm'
            by_cases y : frB cf c d m' = true
            · rw [if_pos y] at hm'
              obtain ⟨rfl, rfl⟩ := Prod.mk.inj (Option.some.inj hm')
              obtain ⟨y1, y2⟩ := Bool.and_eq_true_iff.mp (show ((cf c).testBit d && !m'.testBit d) = true from y)
              have h1 := hd d (by rw [orb]; simp)
              exact z (by simp [frB, y1, h1])
            · rw [if_neg y] at hm'
              cases hm'
theorem B_V0 (cf : Nat → Nat) (j c x n : Nat) : Vi cf j c 0 x = some n ↔ ∃ m, Bi cf j c x = some (n, m) := by
  rw [B_V]
  constructor
  · rintro ⟨m, h, -⟩
    exact ⟨m, h⟩
  · rintro ⟨m, h⟩
    exact ⟨m, h, fun w _ => Nat.zero_testBit w⟩
def dig (C x c : Nat) : Nat := x / 6 ^ (C - 1 - c) % 6
def tkA (cf : Nat → Nat) (W C : Nat) : Nat → Nat
  | 0 => 0
  | c + 1 => nxt (tkA cf W C c) (gw cf W (C - 1 - c) c (tkA cf W C c))
theorem G_path {cf : Nat → Nat} {W : Nat} (hW : W ≤ 5) (hcf : ∀ c w, (cf c).testBit w = true → w < W) (C : Nat) : ∀ c, c ≤ C → Gi cf W C 0 0 % 6 ^ (C - c) = Gi cf W (C - c) c (tkA cf W C c)
  | 0, _ => Nat.mod_eq_of_lt (G_ok hW hcf C 0 0).1
  | c + 1, h => by
    have ih := G_path hW hcf C c (by omega)
    have e : C - c = (C - (c + 1)) + 1 := by omega
    have e2 : C - 1 - c = C - (c + 1) := by omega
    rw [e] at ih
    have hd : 6 ^ (C - (c + 1)) ∣ 6 ^ (C - (c + 1) + 1) := ⟨6, Nat.pow_succ ..⟩
    rw [← Nat.mod_mod_of_dvd (Gi cf W C 0 0) hd, ih, Gi, tkA, e2, Nat.mul_comm, Nat.mul_add_mod, Nat.mod_eq_of_lt (G_ok hW hcf _ _ _).1]
theorem G_dig {cf : Nat → Nat} {W : Nat} (hW : W ≤ 5) (hcf : ∀ c w, (cf c).testBit w = true → w < W) {C c : Nat} (h : c < C) : dig C (Gi cf W C 0 0) c = gw cf W (C - 1 - c) c (tkA cf W C c) := by
  have ih := G_path hW hcf C c (by omega)
  have e : C - c = (C - 1 - c) + 1 := by omega
  rw [e] at ih
  have hp : 0 < 6 ^ (C - 1 - c) := Nat.pow_pos (by decide)
  unfold dig
  have e3 : Gi cf W C 0 0 / 6 ^ (C - 1 - c) % 6 = (Gi cf W C 0 0 % 6 ^ (C - 1 - c + 1)) / 6 ^ (C - 1 - c) := by
    rw [Nat.pow_succ, Nat.mod_mul_right_div_self]
  rw [e3, ih, Gi, Nat.mul_comm, Nat.mul_add_div hp, Nat.div_eq_of_lt (G_ok hW hcf _ _ _).1, Nat.add_zero]

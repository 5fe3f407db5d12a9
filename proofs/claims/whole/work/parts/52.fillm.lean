/-! ===== the reference's filling ===== -/
/-- what the reference's doing reads -/
def FD (M : Mm) (cf : Nat → Nat) (C : Nat) : Prop := M.1 2 1 = nI C ∧ C ≤ 6 ∧ (∀ c, c < C → M.1 12 c = nI (cf c)) ∧ ∀ c, cf c < 64
/-- away from what it writes -/
def farD (M0 M : Mm) : Prop := M.2 = M0.2 ∧ ∀ j i, j < 13 → M.1 j i = M0.1 j i
theorem farD.r (M : Mm) : farD M M := ⟨rfl, fun _ _ _ => rfl⟩
theorem farD.w {M0 M : Mm} (h : farD M0 M) {a k : Nat} {v : Int32} (ha : 13 ≤ a) : farD M0 (wI M a k v) :=
  ⟨h.1, fun j i q => by rw [wI_a _ _ _ _ (by omega), h.2 j i q]⟩
theorem farD.t {M0 M N : Mm} (h : farD M0 M) (g : farD M N) : farD M0 N := ⟨g.1.trans h.1, fun j i q => (g.2 j i q).trans (h.2 j i q)⟩
theorem farD.FD {M0 M : Mm} {cf : Nat → Nat} {C : Nat} (h : farD M0 M) (hf : FD M0 cf C) : FD M cf C := by
  obtain ⟨h1, h2, h3, h4⟩ := hf
  exact ⟨by rw [h.2 _ _ (by omega), h1], h2, fun c hc => by rw [h.2 _ _ (by omega), h3 c hc], h4⟩
theorem Bi_lt {cf : Nat → Nat} (hcf : ∀ c, cf c < 64) : ∀ j c x n m, Bi cf j c x = some (n, m) → n ≤ j ∧ m < 64
  | 0, c, x, n, m, h => by
    obtain ⟨rfl, rfl⟩ := Prod.mk.inj (Option.some.inj h)
    exact ⟨Nat.le_refl _, by decide⟩
  | j + 1, c, x, n, m, h => by
    rw [Bi] at h
    cases hb : Bi cf j (c + 1) (x % 6 ^ j) with
    | none => rw [hb] at h; cases h
    | some p =>
      obtain ⟨n', m'⟩ := p
      have ih := Bi_lt hcf j (c + 1) _ n' m' hb
      rw [hb] at h
      have h' : (if 5 ≤ x / 6 ^ j then some (n', m') else if frB cf c (x / 6 ^ j) m' = true then some (n' + 1, m' ||| 2 ^ (x / 6 ^ j)) else none) = some (n, m) := h
      by_cases q : 5 ≤ x / 6 ^ j
      · rw [if_pos q] at h'
        obtain ⟨rfl, rfl⟩ := Prod.mk.inj (Option.some.inj h')
        omega
      · rw [if_neg q] at h'
        split at h'
        · obtain ⟨rfl, rfl⟩ := Prod.mk.inj (Option.some.inj h')
          exact ⟨by omega, or_lt ih.2 (pow2_lt (by omega))⟩
        · cases h'
/-- one step of the reference's reading of a number -/
theorem Bi_s (cf : Nat → Nat) (j c x : Nat) : Bi cf (j + 1) c (x % 6 ^ (j + 1)) = match Bi cf j (c + 1) (x % 6 ^ j) with
    | none => none
    | some (n, m) => if 5 ≤ x / 6 ^ j % 6 then some (n, m) else if frB cf c (x / 6 ^ j % 6) m = true then some (n + 1, m ||| 2 ^ (x / 6 ^ j % 6)) else none := by
  have h1 : x % 6 ^ (j + 1) % 6 ^ j = x % 6 ^ j := Nat.mod_mod_of_dvd x ⟨6, Nat.pow_succ ..⟩
  have h2 : x % 6 ^ (j + 1) / 6 ^ j = x / 6 ^ j % 6 := by rw [Nat.pow_succ, Nat.mod_mul_right_div_self]
  rw [Bi, h1, h2]
  cases Bi cf j (c + 1) (x % 6 ^ j) <;> rfl
theorem Bi_none (cf : Nat → Nat) {C x : Nat} : ∀ i j, j + i = C → Bi cf j (C - j) (x % 6 ^ j) = none → Bi cf C 0 (x % 6 ^ C) = none
  | 0, j, h, hb => by
    have : j = C := by omega
    subst this
    rw [Nat.sub_self] at hb
    exact hb
  | i + 1, j, h, hb => by
    refine Bi_none cf i (j + 1) (by omega) ?_
    rw [Bi_s, show C - (j + 1) + 1 = C - j by omega, hb]
theorem m_doing {M0 : Mm} {cf : Nat → Nat} {C x : Nat} (hf : FD M0 cf C) (hx : x < 6 ^ C) : ∃ v M', fX7_doing (nI x) M0 = some (v, M') ∧ farD M0 M' ∧ (∀ i, M'.1 14 i = M0.1 14 i) ∧ ((Bi cf C 0 x = none ∧ v = -9) ∨ ∃ n m, Bi cf C 0 x = some (n, m) ∧ v = nI n ∧ ∀ c, c < C → M'.1 13 c = nI (dig C x c)) := by
  have hC := hf.2.1
  have hxx : x % 6 ^ C = x := Nat.mod_eq_of_lt hx
  have h6 : 6 ^ C ≤ 46656 := by
    have : 6 ^ C ≤ 6 ^ 6 := Nat.pow_le_pow_right (by decide) hC
    omega
  obtain ⟨b, hb, h1⟩ := loop_inx0 (fun m (s : Int32 × Int32 × Int32 × Int32 × Mm) => fX7_doing_L17 m s.1 s.2.1 s.2.2.1 s.2.2.2.1 s.2.2.2.2)
    (fun j s => s.1 = nI (x / 6 ^ j) ∧ s.2.2.2.1 = nI (C - j) - 1 ∧ (∃ n m, Bi cf j (C - j) (x % 6 ^ j) = some (n, m) ∧ s.2.1 = nI n ∧ s.2.2.1 = nI m) ∧ farD M0 s.2.2.2.2 ∧ (∀ i, s.2.2.2.2.1 14 i = M0.1 14 i) ∧ ∀ c, C - j ≤ c → c < C → s.2.2.2.2.1 13 c = nI (dig C x c)) C
    (fun b => (∃ M', b = Sum.inr (-9, M') ∧ Bi cf C 0 x = none ∧ farD M0 M' ∧ ∀ i, M'.1 14 i = M0.1 14 i) ∨ (∃ y n m z M', b = Sum.inl (y, nI n, z, -1, M') ∧ Bi cf C 0 x = some (n, m) ∧ farD M0 M' ∧ (∀ i, M'.1 14 i = M0.1 14 i) ∧ ∀ c, c < C → M'.1 13 c = nI (dig C x c))) (n := 50000) (s := (nI x, nI 0, nI 0, nI C - 1, M0)) (by omega) ⟨by simp, by simp, ⟨0, 0, rfl, rfl, rfl⟩, farD.r _, fun _ => rfl, fun c h1 h2 => absurd h2 (by omega)⟩
    (fun n s hs => by
      obtain ⟨y, cnt, msk, i, M⟩ := s
      obtain ⟨s1, s2, ⟨n', m', s3, s4, s5⟩, s6, s7, s8⟩ := hs
      dsimp only at s1 s2 s3 s4 s5 s6 s7 s8
      subst s2
      subst s4
      rw [Nat.sub_self, hxx] at s3
      dsimp only
      rw [Nat.sub_self, show nI 0 - 1 = (-1 : Int32) from rfl, fX7_doing_L17, if_pos (by decide)]
      exact ⟨_, rfl, Or.inr ⟨_, n', m', _, M, rfl, s3, s6, s7, fun c hc => s8 c (by omega) hc⟩⟩)
    (fun n j s hj hs => by
      obtain ⟨y, cnt, msk, i, M⟩ := s
      obtain ⟨s1, s2, ⟨n', m', s3, s4, s5⟩, s6, s7, s8⟩ := hs
      dsimp only at s1 s2 s3 s4 s5 s6 s7 s8
      subst s1
      subst s2
      subst s4
      subst s5
      obtain ⟨bn, bm⟩ := Bi_lt hf.2.2.2 _ _ _ _ _ s3
      have hxj : x / 6 ^ j ≤ x := Nat.div_le_self _ _
      have hF := s6.FD hf
      have hd6 : x / 6 ^ j % 6 < 6 := Nat.mod_lt _ (by decide)
      have hdd : x / 6 ^ j / 6 = x / 6 ^ (j + 1) := by rw [Nat.div_div_eq_div_mul, Nat.pow_succ]
      have hdg : dig C x (C - (j + 1)) = x / 6 ^ j % 6 := by
        unfold dig
        rw [show C - 1 - (C - (j + 1)) = j by omega]
      have hB := Bi_s cf j (C - (j + 1)) x
      rw [show C - (j + 1) + 1 = C - j by omega, s3] at hB
      have hB' : Bi cf (j + 1) (C - (j + 1)) (x % 6 ^ (j + 1)) = (if 5 ≤ x / 6 ^ j % 6 then some (n', m') else if frB cf (C - (j + 1)) (x / 6 ^ j % 6) m' = true then some (n' + 1, m' ||| 2 ^ (x / 6 ^ j % 6)) else none) := hB
      have w13 : farD M0 (wI M 13 (C - (j + 1)) (nI (x / 6 ^ j % 6))) := s6.w (by decide)
      have w14 : ∀ i, (wI M 13 (C - (j + 1)) (nI (x / 6 ^ j % 6))).1 14 i = M0.1 14 i := fun i => by rw [wI_a _ _ _ _ (by decide), s7]
      have wd : ∀ c, C - (j + 1) ≤ c → c < C → (wI M 13 (C - (j + 1)) (nI (x / 6 ^ j % 6))).1 13 c = nI (dig C x c) := fun c h1 h2 => by
        by_cases e : c = C - (j + 1)
        · subst e
          rw [wI_v, hdg]
        · rw [wI_k _ _ _ _ e, s8 c (by omega) h2]
      have wc : (wI M 13 (C - (j + 1)) (nI (x / 6 ^ j % 6))).1 12 (C - (j + 1)) = nI (cf (C - (j + 1))) := by rw [wI_a _ _ _ _ (by decide), hF.2.2.1 _ (by omega)]
      dsimp only
      rw [show nI (C - j) - 1 = nI (C - (j + 1)) by rw [show (1 : Int32) = nI 1 from rfl, pk_sub (by omega)]; congr 1, fX7_doing_L17, if_neg (nI_pos (by omega)), ix_ok (by omega) (by decide), show (6 : Int32) = nI 6 from rfl, pk_rem (by omega) (by decide) (by decide), pk_div (by omega) (by decide) (by decide), hdd, nI_clamp (by omega), lt_eq, ← Int32.sub_eq_add_neg, nI_1]
      by_cases q : 5 ≤ x / 6 ^ j % 6
      · right
        rw [if_pos (show (5 : Int32) ≤ nI (x / 6 ^ j % 6) from nI_le (a := 5) q (by omega))]
        rw [if_pos q] at hB'
        exact ⟨(_, nI n', nI m', _, _), rfl, rfl, rfl, ⟨n', m', hB', rfl, rfl⟩, w13, w14, wd⟩
      · rw [if_neg (show ¬ (5 : Int32) ≤ nI (x / 6 ^ j % 6) from nI_ge (b := 5) (by omega) (by decide)), ix_ok (by omega) (by decide), wc, mhas_ok (hf.2.2.2 _) hd6, bP_s]
        rw [if_neg q] at hB'
        unfold frB at hB'
        rcases Bool.eq_false_or_eq_true ((cf (C - (j + 1))).testBit (x / 6 ^ j % 6)) with z | z
        · rw [z, if_neg (show ¬ b2i true = 0 by decide), mhas_ok bm hd6, bP_s]
          rw [z] at hB'
          rcases Bool.eq_false_or_eq_true (m'.testBit (x / 6 ^ j % 6)) with y | y
          · left
            rw [y, if_neg (show ¬ b2i true = 0 by decide)]
            rw [y, if_neg (by decide)] at hB'
            have := Bi_none cf (C - (j + 1)) (j + 1) (by omega) hB'
            rw [hxx] at this
            exact ⟨_, rfl, Or.inl ⟨_, rfl, this, w13, w14⟩⟩
          · right
            rw [y, if_pos (show b2i false = 0 by decide), s_bit 0 _ (by omega), or_ok bm (pow2_lt hd6)]
            rw [y, if_pos (by decide)] at hB'
            exact ⟨(_, nI (n' + 1), nI (m' ||| 2 ^ (x / 6 ^ j % 6)), _, _), rfl, rfl, rfl, ⟨_, _, hB', rfl, rfl⟩, w13, w14, wd⟩
        · left
          rw [z, if_pos (show b2i false = 0 by decide)]
          rw [z, if_neg (by simp)] at hB'
          have := Bi_none cf (C - (j + 1)) (j + 1) (by omega) hB'
          rw [hxx] at this
          exact ⟨_, rfl, Or.inl ⟨_, rfl, this, w13, w14⟩⟩)
  unfold fX7_doing
  rw [show M0.1 2 ((1 : Int32)).toNatClampNeg = nI C from hf.1, show (0 : Int32) = nI 0 from rfl, hb]
  rcases h1 with ⟨M', rfl, g1, g2, g3⟩ | ⟨y, n, m, z, M', rfl, g1, g2, g3, g4⟩
  · exact ⟨_, M', rfl, g2, g3, Or.inl ⟨g1, rfl⟩⟩
  · exact ⟨_, M', rfl, g2, g3, Or.inr ⟨n, m, g1, rfl, g4⟩⟩
theorem m_copy {M0 : Mm} : ∃ M', fX7_filled_L39 50000 0 M0 = some (nI 6, M') ∧ farD M0 M' ∧ ∀ i, i < 6 → M'.1 14 i = M0.1 13 i := by
  have := loop_0u (fun m (q : Int32 × Mm) => fX7_filled_L39 m q.1 q.2) (fun k => (nI k, cpM M0 14 0 13 0 k)) 6 _ (n := 50000) (by omega)
    (fun m => by
      dsimp only
      rw [fX7_filled_L39, if_pos (show (6 : Int32) ≤ nI 6 by decide)])
    (fun m k hk => by
      dsimp only
      have e := cp_s M0 14 0 13 0 k
      rw [Nat.zero_add] at e
      rw [fX7_filled_L39, if_neg (show ¬ (6 : Int32) ≤ nI k from nI_ge (b := 6) hk (by decide)), ix_ok hk (by decide), ix_ok hk (by decide), lt_eq, nI_clamp (by omega), nI_1, cp_a _ _ _ _ _ _ (by decide), e])
  rw [cp_0] at this
  refine ⟨_, this, ⟨rfl, fun j i hj => by rw [cp_a _ _ _ _ _ _ (by omega)]⟩, fun i hi => ?_⟩
  have e := cp_v M0 14 0 13 0 6 hi
  rw [Nat.zero_add] at e
  exact e
theorem m_sixes {M : Mm} {C : Nat} (hC : C ≤ 6) : fX7_sixes (nI C) M = some (nI (6 ^ C)) := by
  have L : fX7_sixes_L4 (nI C) 50000 (nI (6 ^ 0)) (nI 0) = some (nI (6 ^ C), nI C) :=
    loop_0u (fun m (q : Int32 × Int32) => fX7_sixes_L4 (nI C) m q.1 q.2) (fun k => (nI (6 ^ k), nI k)) C _ (by omega)
    (fun m => by
      dsimp only
      rw [fX7_sixes_L4, if_pos (Int32.le_refl _)])
    (fun m k hk => by
      dsimp only
      rw [fX7_sixes_L4, if_neg (nI_ge hk (by omega)), show (6 : Int32) = nI 6 from rfl, pk_mul, nI_1, Nat.pow_succ])
  unfold fX7_sixes
  rw [show (1 : Int32) = nI (6 ^ 0) from rfl, show (0 : Int32) = nI 0 from rfl, L, b2_s]
/-- the best so far -/
def soF (v : Nat → Option Nat) (N : Nat) (x : Int32) (st : Nat → Prop) : Prop := (x = -1 ∧ ∀ y, y < N → v y = none) ∨ ∃ b a, x = nI b ∧ b ≤ 6 ∧ isB v N b a ∧ st a
theorem m_filled {M0 : Mm} {cf : Nat → Nat} {C W : Nat} (hf : FD M0 cf C) (hW : W ≤ 5) (hcf : ∀ c w, (cf c).testBit w = true → w < W) : ∃ M', fX7_filled M0 = some (nI (Fi cf W C 0 0), M') ∧ farD M0 M' ∧ ∀ c, c < C → M'.1 14 c = nI (gw cf W (C - 1 - c) c (tkA cf W C c)) := by
  have hC := hf.2.1
  have h6 : 6 ^ C ≤ 46656 := by
    have : 6 ^ C ≤ 6 ^ 6 := Nat.pow_le_pow_right (by decide) hC
    omega
  have hG := G_ok hW hcf C 0 0
  have hV : ∀ x, Vi cf C 0 0 x = (Bi cf C 0 x).map Prod.fst := fun x => by
    cases hb : Bi cf C 0 x with
    | none =>
      cases hv : Vi cf C 0 0 x with
      | none => rfl
      | some n =>
        obtain ⟨m, hm⟩ := (B_V0 cf C 0 x n).mp hv
        rw [hb] at hm
        cases hm
    | some p => exact (B_V0 cf C 0 x p.1).mpr ⟨p.2, hb⟩
  obtain ⟨b, hb, h1, h2, h3⟩ := loop_inv0 (fun m (s : Int32 × Int32 × Mm) => fX7_filled_L15 (nI (6 ^ C)) m s.1 s.2.1 s.2.2) (fun k s => s.2.1 = nI k ∧ farD M0 s.2.2 ∧ soF (Vi cf C 0 0) k s.1 (fun a => ∀ c, c < C → s.2.2.1 14 c = nI (dig C a c))) (6 ^ C) (fun b => b.2.1 = nI (6 ^ C) ∧ farD M0 b.2.2 ∧ soF (Vi cf C 0 0) (6 ^ C) b.1 (fun a => ∀ c, c < C → b.2.2.1 14 c = nI (dig C a c))) (n := 50000) (s := (-1, nI 0, M0)) (by omega) ⟨rfl, farD.r _, Or.inl ⟨rfl, fun y hy => absurd hy (by omega)⟩⟩
    (fun n s hs => by
      obtain ⟨x, k, M⟩ := s
      obtain ⟨s1, s2, s3⟩ := hs
      dsimp only at s1 s2 s3
      subst s1
      dsimp only
      rw [fX7_filled_L15, if_pos (Int32.le_refl _)]
      exact ⟨_, rfl, rfl, s2, s3⟩)
    (fun n k s hk hs => by
      obtain ⟨x, kk, M⟩ := s
      obtain ⟨s1, s2, s3⟩ := hs
      dsimp only at s1 s2 s3
      subst s1
      obtain ⟨v, M1, d1, d2, d3, d4⟩ := m_doing (s2.FD hf) hk
      have hvk := hV k
      dsimp only
      rw [fX7_filled_L15, if_neg (nI_ge hk (by omega)), d1, b2_s, nI_1]
      rcases d4 with ⟨d5, rfl⟩ | ⟨n', m', d5, rfl, d6⟩
      · rw [d5] at hvk
        have hvk : Vi cf C 0 0 k = none := hvk
        have hle : (-9 : Int32) ≤ x := by
          rcases s3 with ⟨rfl, -⟩ | ⟨b, a, rfl, hb6, -⟩
          · decide
          · exact Int32.le_of_lt (m9le (by omega))
        rw [if_pos hle]
        refine ⟨(x, nI (k + 1), M1), rfl, rfl, s2.t d2, ?_⟩
        rcases s3 with ⟨rfl, g⟩ | ⟨b, a, rfl, hb6, ⟨g1, g2, g3, g4⟩, g5⟩
        · refine Or.inl ⟨rfl, fun y hy => ?_⟩
          by_cases e : y = k
          · rw [e, hvk]
          · exact g y (by omega)
        · refine Or.inr ⟨b, a, rfl, hb6, ⟨by omega, g2, fun y z hy hv => ?_, g4⟩, fun c hc => by rw [d3, g5 c hc]⟩
          by_cases e : y = k
          · rw [e, hvk] at hv
            cases hv
          · exact g3 y z (by omega) hv
      · rw [d5] at hvk
        have hvk : Vi cf C 0 0 k = some n' := hvk
        have hn' : n' ≤ 6 := by
          have := (Bi_lt hf.2.2.2 _ _ _ _ _ d5).1
          omega
        have key : nI n' ≤ x ↔ ∃ b a, x = nI b ∧ b ≤ 6 ∧ isB (Vi cf C 0 0) k b a ∧ n' ≤ b := by
          rcases s3 with ⟨rfl, g⟩ | ⟨b, a, rfl, hb6, g⟩
          · constructor
            · intro z
              exact absurd z (neg_nle (by decide) (by omega))
            · rintro ⟨b, a, hx, hb6, -⟩
              exact absurd (show nI b < 0 by rw [← hx]; decide) (nI_pos (by omega))
          · constructor
            · intro z
              exact ⟨b, a, rfl, hb6, g.1, by
                rcases Nat.lt_or_ge b n' with w | w
                · exact absurd z (nI_ge w (by omega))
                · exact w⟩
            · rintro ⟨b', a', hx, hb6', hB', hle⟩
              exact nI_le (by have := (isB_u g.1 hB').1; omega) (by omega)
        by_cases q : nI n' ≤ x
        · obtain ⟨b', a', hx, hb6', hB', hle⟩ := key.mp q
          rw [if_pos q]
          refine ⟨(x, nI (k + 1), M1), rfl, rfl, s2.t d2, ?_⟩
          rcases s3 with ⟨rfl, g⟩ | ⟨b, a, rfl, hb6, ⟨g1, g2, g3, g4⟩, g5⟩
          · exact absurd q (neg_nle (by decide) (by omega))
          · have eb := (isB_u ⟨g1, g2, g3, g4⟩ hB').1
            refine Or.inr ⟨b, a, rfl, hb6, ⟨by omega, g2, fun y z hy hv => ?_, g4⟩, fun c hc => by rw [d3, g5 c hc]⟩
            by_cases e : y = k
            · rw [e, hvk] at hv
              have := Option.some.inj hv
              omega
            · exact g3 y z (by omega) hv
        · rw [if_neg q]
          obtain ⟨M2, c1, c2, c3⟩ := m_copy (M0 := M1)
          rw [c1, b2_s]
          refine ⟨(nI n', nI (k + 1), M2), rfl, rfl, (s2.t d2).t c2, Or.inr ⟨n', k, rfl, hn', ⟨by omega, hvk, fun y z hy hv => ?_, fun y z hy hv => ?_⟩, fun c hc => by rw [c3 c (by omega), d6 c hc]⟩⟩
          · by_cases e : y = k
            · rw [e, hvk] at hv
              have := Option.some.inj hv
              omega
            · rcases s3 with ⟨rfl, g⟩ | ⟨b, a, rfl, hb6, ⟨g1, g2, g3, g4⟩, g5⟩
              · rw [g y (by omega)] at hv
                cases hv
              · have := g3 y z (by omega) hv
                have : ¬ n' ≤ b := fun w => q (nI_le w (by omega))
                omega
          · rcases s3 with ⟨rfl, g⟩ | ⟨b, a, rfl, hb6, ⟨g1, g2, g3, g4⟩, g5⟩
            · rw [g y (by omega)] at hv
              cases hv
            · have := g3 y z (by omega) hv
              have : ¬ n' ≤ b := fun w => q (nI_le w (by omega))
              omega)
  obtain ⟨x, k, M'⟩ := b
  dsimp only at h1 h2 h3
  subst h1
  unfold fX7_filled
  rw [show M0.1 2 ((1 : Int32)).toNatClampNeg = nI C from hf.1, m_sixes hC, bP_s, show (0 : Int32) = nI 0 from rfl, hb, b3_s]
  rcases h3 with ⟨-, g⟩ | ⟨b, a, rfl, hb6, g, g5⟩
  · have := hG.2.1
    rw [g _ hG.1] at this
    cases this
  · obtain ⟨rfl, rfl⟩ := isB_u g hG
    exact ⟨M', rfl, h2, fun c hc => by rw [g5 c hc, G_dig hW hcf hc]⟩

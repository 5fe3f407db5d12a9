/-! ===== the class's filling ===== -/
/-- what the class's Filling holds -/
def FC (M : Mm) (cf : Nat → Nat) (C W : Nat) : Prop := M.1 51 2 = nI C ∧ M.1 51 3 = nI W ∧ C ≤ 6 ∧ W ≤ 5 ∧ (∀ c, c < C → M.1 52 c = nI (cf c)) ∧ (∀ c, cf c < 64) ∧ ∀ c w, (cf c).testBit w = true → w < W
theorem p2W {W : Nat} (h : W ≤ 5) : 2 ^ W ≤ 32 ∧ 0 < 2 ^ W := ⟨by
  have : 2 ^ W ≤ 2 ^ 5 := Nat.pow_le_pow_right (by decide) h
  omega, Nat.pow_pos (by decide)⟩
theorem or2 {W w tk : Nat} (h : tk < 2 ^ W) (hw : w < W) : tk ||| 2 ^ w < 2 ^ W := Nat.or_lt_two_pow h (Nat.pow_lt_pow_right (by decide) hw)
section FL
variable {M : Mm} {cf : Nat → Nat} {C W : Nat}
theorem c_isFree (h : FC M cf C W) {c w tk : Nat} (hc : c < C) (hw : w < W) (ht : tk < 2 ^ W) : fX0_isFree (nI c) (nI w) (nI tk) M = some (b2i (frB cf c w tk)) := by
  obtain ⟨h1, h2, h3, h4, h5, h6, h7⟩ := h
  have hp := p2W h4
  unfold fX0_isFree frB
  rw [ix_ok (by omega) (by decide), nI_clamp (by omega), h5 c hc, has_ok (h6 c) (by omega), bP_s, has_ok (by omega) (by omega), bP_s]
  cases (cf c).testBit w <;> cases tk.testBit w <;> rfl
theorem mx_le (c tk : Nat) (f : Nat → Nat) (hf : ∀ t, f t ≤ 6) : ∀ k, mx cf c tk f k ≤ 7
  | 0 => by
    have := hf tk
    show f tk ≤ 7
    omega
  | k + 1 => by
    have := mx_le c tk f hf k
    have := hf (tk ||| 2 ^ k)
    rw [mx]
    split
    · exact Nat.max_le.mpr ⟨by omega, by omega⟩
    · omega
theorem c_mostFrom (h : FC M cf C W) {c tk : Nat} (hc : c < C) (ht : tk < 2 ^ W) {f : Nat → Nat} (hf : ∀ t, f t ≤ 6) (hr : ∀ t, t < 2 ^ W → M.1 (54 + (c + 1)) t = nI (f t)) : fX0_mostFrom (nI c) (nI tk) M = some (nI (mx cf c tk f W)) := by
  have h' := h
  obtain ⟨h1, h2, h3, h4, h5, h6, h7⟩ := h
  have hp := p2W h4
  have L : fX0_mostFrom_L14 (nI c) (nI tk) M 50000 (nI (mx cf c tk f 0)) (nI 0) = some (nI (mx cf c tk f W), nI W) :=
    loop_0u (fun m (q : Int32 × Int32) => fX0_mostFrom_L14 (nI c) (nI tk) M m q.1 q.2) (fun k => (nI (mx cf c tk f k), nI k)) W _ (by omega)
    (fun m => by
      dsimp only
      rw [fX0_mostFrom_L14, h2, if_pos (Int32.le_refl _)])
    (fun m k hk => by
      have b1 := mx_le (cf := cf) c tk f hf k
      have b2 := hf (tk ||| 2 ^ k)
      have o2 := or2 ht hk
      have q2 : 2 ^ k < 64 := pow2_lt (by omega)
      dsimp only
      rw [fX0_mostFrom_L14, h2, if_neg (nI_ge hk (by omega)), c_isFree h' hc hk ht, bP_s, nI_1, nI_1, mx]
      rcases Bool.eq_false_or_eq_true (frB cf c k tk) with z | z
      · rw [z, if_neg (show ¬ b2i true = 0 by decide), ix_ok (by omega) (by decide), bit_ok (by omega), bP_s, or_ok (by omega) q2, ix_ok (by omega) (by decide), nI_clamp (by omega), nI_clamp (by omega), hr _ o2, if_pos rfl, show (1 : Int32) = nI 1 from rfl, nI_add]
        by_cases y : mx cf c tk f k < 1 + f (tk ||| 2 ^ k)
        · rw [if_pos (nI_lt y (by omega)), show Nat.max (mx cf c tk f k) (1 + f (tk ||| 2 ^ k)) = 1 + f (tk ||| 2 ^ k) from Nat.max_eq_right (by omega)]
        · rw [if_neg (nI_nlt (by omega) (by omega)), show Nat.max (mx cf c tk f k) (1 + f (tk ||| 2 ^ k)) = mx cf c tk f k from Nat.max_eq_left (by omega)]
      · rw [z, if_pos (show b2i false = 0 by decide), if_neg (by decide)])
  unfold fX0_mostFrom
  rw [nI_1, ix_ok (by omega) (by decide), ix_ok (by omega) (by decide), nI_clamp (by omega), nI_clamp (by omega), hr _ ht]
  rw [show (0 : Int32) = nI 0 from rfl]
  rw [show mx cf c tk f 0 = f tk from rfl] at L
  rw [L, b2_s]
end FL
/-- away from the table -/
def farT (M0 M : Mm) : Prop := M.2 = M0.2 ∧ ∀ j i, (j < 54 ∨ 60 < j) → M.1 j i = M0.1 j i
theorem farT.r (M : Mm) : farT M M := ⟨rfl, fun _ _ _ => rfl⟩
theorem farT.w {M0 M : Mm} (h : farT M0 M) {a k : Nat} {v : Int32} (ha : 54 ≤ a ∧ a ≤ 60) : farT M0 (wI M a k v) :=
  ⟨h.1, fun j i q => by rw [wI_a _ _ _ _ (by omega), h.2 j i q]⟩
theorem farT.FC {M0 M : Mm} {cf : Nat → Nat} {C W : Nat} (h : farT M0 M) (hf : FC M0 cf C W) : FC M cf C W := by
  obtain ⟨h1, h2, h3, h4, h5, h6, h7⟩ := hf
  exact ⟨by rw [h.2 _ _ (by omega), h1], by rw [h.2 _ _ (by omega), h2], h3, h4, fun c hc => by rw [h.2 _ _ (by omega), h5 c hc], h6, h7⟩
theorem c_solve0 {M0 : Mm} {cf : Nat → Nat} {C W : Nat} (hf : FC M0 cf C W) : ∃ M', fX0_solve_L2 50000 0 M0 = some (nI (2 ^ W), M') ∧ farT M0 M' ∧ ∀ t, t < 2 ^ W → M'.1 (54 + C) t = nI 0 := by
  have hp := p2W hf.2.2.2.1
  have hC := hf.2.2.1
  have hW := hf.2.2.2.1
  obtain ⟨b, hb, h1, h2, h3⟩ := loop_inv0 (fun m (s : Int32 × Mm) => fX0_solve_L2 m s.1 s.2) (fun k s => s.1 = nI k ∧ farT M0 s.2 ∧ ∀ t, t < k → s.2.1 (54 + C) t = nI 0) (2 ^ W) (fun b => b.1 = nI (2 ^ W) ∧ farT M0 b.2 ∧ ∀ t, t < 2 ^ W → b.2.1 (54 + C) t = nI 0) (n := 50000) (s := (nI 0, M0)) (by omega) ⟨rfl, farT.r _, fun t ht => absurd ht (by omega)⟩
    (fun n s hs => by
      obtain ⟨x, M⟩ := s
      obtain ⟨s1, s2, s3⟩ := hs
      dsimp only at s1 s2 s3
      subst s1
      have hF := s2.FC hf
      dsimp only
      rw [fX0_solve_L2, hF.2.1, bit_ok (by omega), bP_s, if_pos (Int32.le_refl _)]
      exact ⟨_, rfl, rfl, s2, s3⟩)
    (fun n k s hk hs => by
      obtain ⟨x, M⟩ := s
      obtain ⟨s1, s2, s3⟩ := hs
      dsimp only at s1 s2 s3
      subst s1
      have hF := s2.FC hf
      dsimp only
      rw [fX0_solve_L2, hF.2.1, bit_ok (by omega), bP_s, if_neg (nI_ge hk (by omega)), hF.1, ix_ok (by omega) (by decide), ix_ok (by omega) (by decide), nI_clamp (by omega), nI_clamp (by omega), nI_1, lt_eq]
      refine ⟨(nI (k + 1), wI M (54 + C) k (nI 0)), rfl, rfl, s2.w (by omega), fun t ht => ?_⟩
      dsimp only
      by_cases e : t = k
      · subst e
        rw [wI_v]
      · rw [wI_k _ _ _ _ e, s3 t (by omega)])
  obtain ⟨b1, b2⟩ := b
  dsimp only at h1 h2 h3
  subst h1
  exact ⟨b2, hb, h2, h3⟩
theorem c_solve1 {M0 : Mm} {cf : Nat → Nat} {C W c : Nat} (hf : FC M0 cf C W) (hc : c < C) {f : Nat → Nat} (hff : ∀ t, f t ≤ 6) (hr : ∀ t, t < 2 ^ W → M0.1 (54 + (c + 1)) t = nI (f t)) : ∃ M', fX0_solve_L44 (nI c) 50000 0 M0 = some (nI (2 ^ W), M') ∧ farT M0 M' ∧ (∀ j t, j ≠ 54 + c → M'.1 j t = M0.1 j t) ∧ ∀ t, t < 2 ^ W → M'.1 (54 + c) t = nI (mx cf c t f W) := by
  have hp := p2W hf.2.2.2.1
  have hC := hf.2.2.1
  have hW := hf.2.2.2.1
  obtain ⟨b, hb, h1, h2, h3, h4⟩ := loop_inv0 (fun m (s : Int32 × Mm) => fX0_solve_L44 (nI c) m s.1 s.2) (fun k s => s.1 = nI k ∧ farT M0 s.2 ∧ (∀ j t, j ≠ 54 + c → s.2.1 j t = M0.1 j t) ∧ ∀ t, t < k → s.2.1 (54 + c) t = nI (mx cf c t f W)) (2 ^ W) (fun b => b.1 = nI (2 ^ W) ∧ farT M0 b.2 ∧ (∀ j t, j ≠ 54 + c → b.2.1 j t = M0.1 j t) ∧ ∀ t, t < 2 ^ W → b.2.1 (54 + c) t = nI (mx cf c t f W)) (n := 50000) (s := (nI 0, M0)) (by omega) ⟨rfl, farT.r _, fun _ _ _ => rfl, fun t ht => absurd ht (by omega)⟩
    (fun n s hs => by
      obtain ⟨x, M⟩ := s
      obtain ⟨s1, s2, s3, s4⟩ := hs
      dsimp only at s1 s2 s3 s4
      subst s1
      have hF := s2.FC hf
      dsimp only
      rw [fX0_solve_L44, hF.2.1, bit_ok (by omega), bP_s, if_pos (Int32.le_refl _)]
      exact ⟨_, rfl, rfl, s2, s3, s4⟩)
    (fun n k s hk hs => by
      obtain ⟨x, M⟩ := s
      obtain ⟨s1, s2, s3, s4⟩ := hs
      dsimp only at s1 s2 s3 s4
      subst s1
      have hF := s2.FC hf
      dsimp only
      rw [fX0_solve_L44, hF.2.1, bit_ok (by omega), bP_s, if_neg (nI_ge hk (by omega)), ix_ok (by omega) (by decide), c_mostFrom hF hc hk hff (fun t ht => by rw [s3 _ _ (by omega), hr t ht]), bP_s, ix_ok (by omega) (by decide), nI_clamp (by omega), nI_clamp (by omega), nI_1, lt_eq]
      refine ⟨(nI (k + 1), wI M (54 + c) k (nI (mx cf c k f W))), rfl, rfl, s2.w (by omega), fun j t hj => by rw [wI_a _ _ _ _ hj, s3 j t hj], fun t ht => ?_⟩
      dsimp only
      by_cases e : t = k
      · subst e
        rw [wI_v]
      · rw [wI_k _ _ _ _ e, s4 t (by omega)])
  obtain ⟨b1, b2⟩ := b
  dsimp only at h1 h2 h3 h4
  subst h1
  exact ⟨b2, hb, h2, h3, h4⟩
/-- the table -/
def FT (M : Mm) (cf : Nat → Nat) (C W c0 : Nat) : Prop := ∀ c, c0 ≤ c → c ≤ C → ∀ t, t < 2 ^ W → M.1 (54 + c) t = nI (Fi cf W (C - c) c t)
theorem farT.t {M0 M N : Mm} (h : farT M0 M) (g : farT M N) : farT M0 N := ⟨g.1.trans h.1, fun j i q => (g.2 j i q).trans (h.2 j i q)⟩
theorem c_solve {M0 : Mm} {cf : Nat → Nat} {C W : Nat} (hf : FC M0 cf C W) : ∃ M', fX0_solve M0 = some (nI (Fi cf W C 0 0), M') ∧ farT M0 M' ∧ FT M' cf C W 0 := by
  have hp := p2W hf.2.2.2.1
  have hC := hf.2.2.1
  obtain ⟨M1, e1, e2, e3⟩ := c_solve0 hf
  have hF1 := e2.FC hf
  have T1 : FT M1 cf C W C := fun c h1 h2 t ht => by
    have : c = C := by omega
    subst this
    rw [Nat.sub_self, e3 t ht]
    rfl
  have L : ∀ k M, k ≤ C → farT M0 M → FT M cf C W k → ∀ n, k < n → ∃ M', fX0_solve_L38 n (nI k - 1) M = some (-1, M') ∧ farT M0 M' ∧ FT M' cf C W 0 := by
    intro k
    induction k with
    | zero =>
      intro M hk hM hT n hn
      obtain ⟨n', rfl⟩ : ∃ n', n = n' + 1 := ⟨n - 1, by omega⟩
      exact ⟨M, by rw [show nI 0 - 1 = -1 from rfl, fX0_solve_L38, if_pos (by decide)], hM, hT⟩
    | succ k ih =>
      intro M hk hM hT n hn
      obtain ⟨n', rfl⟩ : ∃ n', n = n' + 1 := ⟨n - 1, by omega⟩
      obtain ⟨M2, g1, g2, g3, g4⟩ := c_solve1 (hM.FC hf) (c := k) (by omega) (f := fun t => Fi cf W (C - (k + 1)) (k + 1) t) (fun t => by have := Fi_le cf W (C - (k + 1)) (k + 1) t; omega) (fun t ht => hT (k + 1) (by omega) hk t ht)
      obtain ⟨M3, g5, g6, g7⟩ := ih M2 (by omega) (hM.t g2) (fun c h1 h2 t ht => by
        by_cases e : c = k
        · subst e
          rw [g4 t ht, show C - c = (C - (c + 1)) + 1 by omega, Fi]
        · rw [g3 _ _ (by omega), hT c (by omega) h2 t ht]) n' (by omega)
      refine ⟨M3, ?_, g6, g7⟩
      rw [show (1 : Int32) = nI 1 from rfl, pk_sub (by omega), Nat.add_sub_cancel, fX0_solve_L38, if_neg (nI_pos (by omega)), g1, b2_s, ← Int32.sub_eq_add_neg, g5]
      rfl
  obtain ⟨M2, g1, g2, g3⟩ := L C M1 (by omega) e2 T1 50000 (by omega)
  refine ⟨M2, ?_, g2, g3⟩
  unfold fX0_solve
  rw [e1, b2_s, hF1.1, g1, b2_s]
  have := g3 0 (by omega) (by omega) 0 hp.2
  rw [Nat.sub_zero] at this
  exact congrArg (fun v => some (v, M2)) this
/-- a work, or none -/
def wrk (d : Nat) : Int32 := if d = 5 then -9 else nI d
theorem gw_lt {cf : Nat → Nat} {W j c tk : Nat} : gw cf W j c tk < W ∨ gw cf W j c tk = 5 := by
  rcases gw_ok cf W j c tk with h | h
  · exact Or.inl h.1
  · exact Or.inr h.1
theorem tkA_lt {cf : Nat → Nat} {W C : Nat} (hW : W ≤ 5) : ∀ c, tkA cf W C c < 2 ^ W
  | 0 => (p2W hW).2
  | c + 1 => by
    have ih := tkA_lt (cf := cf) (C := C) hW c
    rw [tkA]
    unfold nxt
    split
    · exact ih
    · rcases gw_lt (cf := cf) (W := W) (j := C - 1 - c) (c := c) (tk := tkA cf W C c) with h | h
      · exact or2 ih h
      · contradiction
theorem c_firstWork {M : Mm} {cf : Nat → Nat} {C W c tk : Nat} (hf : FC M cf C W) (hT : FT M cf C W 0) (hc : c < C) (ht : tk < 2 ^ W) : fX0_firstWork (nI c) (nI tk) M = some (wrk (gw cf W (C - 1 - c) c tk)) := by
  have hp := p2W hf.2.2.2.1
  have hC := hf.2.2.1
  have hW := hf.2.2.2.1
  have hg := gw_ok cf W (C - 1 - c) c tk
  have hs : C - c = C - 1 - c + 1 := by omega
  have hs2 : C - (c + 1) = C - 1 - c := by omega
  obtain ⟨b, hb, h1⟩ := loop_inx0 (fun m (s : Int32) => fX0_firstWork_L2 (nI c) (nI tk) M m s) (fun k s => s = nI k ∧ ∀ w, w < k → gP cf W (C - 1 - c) c tk w = false) W (fun b => (∃ d, d < W ∧ b = Sum.inr (nI d) ∧ isFst (gP cf W (C - 1 - c) c tk) W d) ∨ (b = Sum.inl (nI W) ∧ isFst (gP cf W (C - 1 - c) c tk) W 5)) (n := 50000) (s := nI 0) (by omega) ⟨rfl, fun w hw => absurd hw (by omega)⟩
    (fun n s hs => by
      obtain ⟨s1, s2⟩ := hs
      subst s1
      rw [fX0_firstWork_L2, hf.2.1, if_pos (Int32.le_refl _)]
      exact ⟨_, rfl, Or.inr ⟨rfl, Or.inr ⟨rfl, s2⟩⟩⟩)
    (fun n k s hk hs3 => by
      obtain ⟨s1, s2⟩ := hs3
      subst s1
      have o2 := or2 ht hk
      have q2 : 2 ^ k < 64 := pow2_lt (by omega)
      have b1 := Fi_le cf W (C - 1 - c) (c + 1) (tk ||| 2 ^ k)
      have b2 := Fi_le cf W (C - 1 - c + 1) c tk
      have gp : gP cf W (C - 1 - c) c tk k = (frB cf c k tk && (1 + Fi cf W (C - 1 - c) (c + 1) (tk ||| 2 ^ k) == Fi cf W (C - 1 - c + 1) c tk)) := rfl
      have nx : gP cf W (C - 1 - c) c tk k = false → ∀ w, w < k + 1 → gP cf W (C - 1 - c) c tk w = false := fun z w hw => by
        by_cases e : w = k
        · rw [e, z]
        · exact s2 w (by omega)
      have t1 := hT (c + 1) (by omega) (by omega) _ o2
      have t2 := hT c (by omega) (by omega) _ ht
      rw [hs2] at t1
      rw [hs] at t2
      rw [fX0_firstWork_L2, hf.2.1, if_neg (nI_ge hk (by omega)), c_isFree hf hc hk ht, bP_s, nI_1, nI_1]
      rcases Bool.eq_false_or_eq_true (frB cf c k tk) with z | z
      · rw [z, Bool.true_and] at gp
        rw [z, if_neg (show ¬ b2i true = 0 by decide), ix_ok (by omega) (by decide), bit_ok (by omega), bP_s, or_ok (by omega) q2, ix_ok (by omega) (by decide), ix_ok (by omega) (by decide), ix_ok (by omega) (by decide), nI_clamp (by omega), nI_clamp (by omega), nI_clamp (by omega), nI_clamp (by omega), t1, t2, show (1 : Int32) = nI 1 from rfl, nI_add]
        by_cases y : 1 + Fi cf W (C - 1 - c) (c + 1) (tk ||| 2 ^ k) = Fi cf W (C - 1 - c + 1) c tk
        · left
          rw [if_pos (by rw [y])]
          exact ⟨_, rfl, Or.inl ⟨k, hk, rfl, Or.inl ⟨hk, by rw [gp]; exact beq_iff_eq.mpr y, s2⟩⟩⟩
        · right
          rw [if_neg (fun q => y ((nI_eq (by omega) (by omega)).mp q))]
          exact ⟨nI (k + 1), rfl, rfl, nx (by rw [gp]; exact beq_false_of_ne y)⟩
      · right
        rw [z, if_pos (show b2i false = 0 by decide)]
        exact ⟨nI (k + 1), rfl, rfl, nx (by rw [gp, z]; rfl)⟩)
  unfold fX0_firstWork
  rw [show (0 : Int32) = nI 0 from rfl, hb]
  rcases h1 with ⟨d, hd, rfl, hd2⟩ | ⟨rfl, hd2⟩
  · rw [← isFst_u hd2 hg]
    unfold wrk
    rw [if_neg (by omega)]
    rfl
  · rw [← isFst_u hd2 hg]
    rfl
theorem c_workOf {M : Mm} {cf : Nat → Nat} {C W p : Nat} (hf : FC M cf C W) (hT : FT M cf C W 0) (hp : p < C) : fX0_workOf (nI p) M = some (wrk (gw cf W (C - 1 - p) p (tkA cf W C p))) := by
  have hC := hf.2.2.1
  have hW := hf.2.2.2.1
  have hpw := p2W hW
  have L : fX0_workOf_L8 (nI p) M 50000 (nI (tkA cf W C 0)) (-9) (nI 0) = some (nI (tkA cf W C (p + 1)), wrk (gw cf W (C - 1 - p) p (tkA cf W C p)), nI (p + 1)) :=
    loop_0u (fun m (q : Int32 × Int32 × Int32) => fX0_workOf_L8 (nI p) M m q.1 q.2.1 q.2.2) (fun k => (nI (tkA cf W C k), (match k with | 0 => -9 | k + 1 => wrk (gw cf W (C - 1 - k) k (tkA cf W C k))), nI k)) (p + 1) _ (by omega)
    (fun m => by
      dsimp only
      rw [fX0_workOf_L8, if_pos (nI_lt (by omega) (by omega))])
    (fun m k hk => by
      have ht := tkA_lt (cf := cf) (C := C) hW k
      dsimp only
      rw [fX0_workOf_L8, if_neg (nI_nlt (by omega) (by omega)), c_firstWork hf hT (by omega) ht, bP_s, nI_1, tkA]
      unfold wrk nxt
      by_cases e : gw cf W (C - 1 - k) k (tkA cf W C k) = 5
      · rw [if_pos e, if_pos rfl, if_pos e]
      · have hlt : gw cf W (C - 1 - k) k (tkA cf W C k) < W := by
          rcases gw_lt (cf := cf) (W := W) (j := C - 1 - k) (c := k) (tk := tkA cf W C k) with h | h
          · exact h
          · exact absurd h e
        have q2 : 2 ^ gw cf W (C - 1 - k) k (tkA cf W C k) < 64 := pow2_lt (by omega)
        rw [if_neg e, if_neg (m9 (by omega)), bit_ok (by omega), bP_s, if_neg e, or_ok (by omega) q2])
  unfold fX0_workOf
  rw [show (0 : Int32) = nI 0 from rfl]
  rw [show tkA cf W C 0 = 0 from rfl] at L
  rw [L, b3_s]

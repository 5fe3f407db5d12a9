/-! ===== the whole text ===== -/
def acc (τ : Nat → Nat) (fm fl : Bool) (c : Nat) : Bool := if c = 97 then decide (τ 0 < 6) else if c = 119 then decide (τ 2 < 5) else if c = 109 then !fm else !fl
theorem isL_or {c : Nat} (h : isL c = true) : c = 97 ∨ c = 119 ∨ c = 109 ∨ c = 108 := by
  unfold isL at h
  simp at h
  exact h
theorem m_may {M : Mm} {τ ω : Nat → Nat} {fm fl : Bool} (e : DRm τ ω fm fl M) (ok : OKt τ ω) {c : Nat} (hc : isL c = true) (h7 : M.1 0 7 = nI c) : fX7_mayBegin M = some (b2i (acc τ fm fl c)) := by
  have h0 := ok.1.1
  have h2 := ok.1.2.2.1
  unfold fX7_mayBegin acc
  rw [ct4, ct6, e.1, e.2.2.1, h7, e.2.2.2.2.2.2]
  rcases isL_or hc with rfl | rfl | rfl | rfl
  · rw [if_pos (show nI 97 = 97 from rfl), if_pos (show nI 97 = 97 from rfl), if_pos rfl]
    by_cases q : τ 0 < 6
    · rw [if_neg (show ¬ 6 ≤ nI (τ 0) from nI_ge (b := 6) q (by decide)), decide_eq_true q]
      rfl
    · rw [if_pos (show 6 ≤ nI (τ 0) from nI_le (a := 6) (by omega) (by omega)), decide_eq_false q]
      rfl
  · rw [if_neg (show ¬ nI 119 = 97 by decide), if_pos (show nI 119 = 119 from rfl), if_neg (show ¬ nI 119 = 97 by decide), if_neg (show ¬ 119 = 97 by decide), if_pos (show 119 = 119 from rfl)]
    by_cases q : τ 2 < 5
    · rw [if_neg (show ¬ 5 ≤ nI (τ 2) from nI_ge (b := 5) q (by decide)), decide_eq_true q]
      rfl
    · rw [if_pos (show 5 ≤ nI (τ 2) from nI_le (a := 5) (by omega) (by omega)), decide_eq_false q]
      rfl
  · cases fm <;> cases fl <;> rfl
  · cases fm <;> cases fl <;> rfl
theorem zb_rc {t b n q it : Nat} {x : Nat → Nat} {Mc Md : Mm} {rc : Option (Int32 × Mm)} {rm : Option Mm} (h : ItOut t b n x q it Mc Md rc rm) : b2 rc (fun v M => zb v (some (v, M))) = rc := by
  rcases h with ⟨Mc', Md', q2, τ', ω', fm', fl', rfl, -⟩ | ⟨Mc', Md', s, rfl, -⟩
  · rw [b2_s, zb_1]
  · rw [b2_s, zb_0]
section IT3
variable {n t b q it c : Nat} {x τ ω : Nat → Nat} {fm fl : Bool} {Mc Md : Mm}
theorem it_c (hn : n ≤ 120) (hx : ∀ j, j < n → x j ≤ 255) (ht : t = 64 ∨ t = 68) (hb : b = 132 - t) (hq : q ≤ n) (h : TC Mc n x q) (d : DRc b τ ω fm fl it Mc) (g : TM Md n x q) (h8 : Md.1 0 8 = -1) (e : DRm τ ω fm fl Md) (ok : OKt τ ω) (hc : isL c = true) (h4 : Mc.1 1 4 = nI c) (ha : acc τ fm fl c = true) : ItOut t b n x q it Mc Md (fX4_readsItem b Mc) (fX7_readsItem (nI c) Md) := by
  unfold fX4_readsItem
  unfold acc at ha
  rw [h4]
  rcases isL_or hc with rfl | rfl | rfl | rfl
  · have := it_A hn hx ht hb hq h d g h8 e ok (by simpa using ha)
    rw [if_pos (show nI 97 = 97 from rfl), zb_rc this]
    exact this
  · have := it_W hn hx ht hb hq h d g h8 e ok (by simpa using ha)
    rw [if_neg (show ¬ nI 119 = 97 by decide), if_neg (show ¬ nI 119 = 108 by decide), if_neg (show ¬ nI 119 = 109 by decide), if_pos (show nI 119 = 119 from rfl), zb_rc this]
    exact this
  · have := it_M hn hx ht hb hq h d g h8 e ok (by simpa using ha)
    rw [if_neg (show ¬ nI 109 = 97 by decide), if_neg (show ¬ nI 109 = 108 by decide), if_pos (show nI 109 = 109 from rfl), zb_rc this]
    exact this
  · have := it_L hn hx ht hb hq h d g h8 e ok (by simpa using ha)
    rw [if_neg (show ¬ nI 108 = 97 by decide), if_pos (show nI 108 = 108 from rfl), zb_rc this]
    exact this
theorem c_no (d : DRc b τ ω fm fl it Mc) (ok : OKt τ ω) (hc : isL c = true) (h4 : Mc.1 1 4 = nI c) (ha : acc τ fm fl c = false) : fX4_readsItem b Mc = some (0, Mc) := by
  have h0 := ok.1.1
  have h2 := ok.1.2.2.1
  unfold fX4_readsItem
  unfold acc at ha
  rw [h4]
  rcases isL_or hc with rfl | rfl | rfl | rfl
  · have q : ¬ τ 0 < 6 := by simpa using ha
    unfold fX4_readsRoom
    rw [if_pos (show nI 97 = 97 from rfl), d.2.1, if_pos (show (6 : Int32) ≤ nI (τ 0) from nI_le (a := 6) (by omega) (by omega)), b2_s, zb_0]
  · have q : ¬ τ 2 < 5 := by simpa using ha
    unfold fX4_readsWork
    rw [if_neg (show ¬ nI 119 = 97 by decide), if_neg (show ¬ nI 119 = 108 by decide), if_neg (show ¬ nI 119 = 109 by decide), if_pos (show nI 119 = 119 from rfl), d.2.2.2.1, if_pos (show (5 : Int32) ≤ nI (τ 2) from nI_le (a := 5) (by omega) (by omega)), b2_s, zb_0]
  · have q : fm = true := by simpa using ha
    unfold fX4_readsMothers
    rw [if_neg (show ¬ nI 109 = 97 by decide), if_neg (show ¬ nI 109 = 108 by decide), if_pos (show nI 109 = 109 from rfl), d.2.2.2.2.2.2.2.1, q, if_neg (show ¬ b2i true = 0 by decide), b2_s, zb_0]
  · have q : fl = true := by simpa using ha
    unfold fX4_readsLife
    rw [if_neg (show ¬ nI 108 = 97 by decide), if_pos (show nI 108 = 108 from rfl), d.2.2.2.2.2.2.2.2, q, if_neg (show ¬ b2i true = 0 by decide), b2_s, zb_0]
end IT3
theorem m_exit {M : Mm} {s : Nat} (h : M.1 0 8 = nI s) (hs : s ≤ 120) (m : Nat) (v : Int32) : fX7_town_L25 (m + 1) v M = some (v, M) := by
  rw [fX7_town_L25, m_ill h hs, bP_s, if_pos rfl]
theorem tail_ill {M : Mm} {s : Nat} (h : M.1 0 8 = nI s) (hs : s ≤ 120) (m : Nat) (v : Int32) : (if M.1 0 5 = 3 then b2 (fX7_takes 1 M) (fun (_ : Int32) (M' : Mm) => fX7_town_L25 (m + 1) (v + 1) M') else b2 (fX7_takes 0 M) (fun (_ : Int32) (M' : Mm) => fX7_town_L25 (m + 1) (v + 1) M')) = some (v + 1, M) := by
  rw [m_takesI h hs, m_takesI h hs, b2_s, m_exit h hs]
  split <;> rfl
def TwOut (t b n : Nat) (x : Nat → Nat) (Mc Md : Mm) (rc : Option ((Int32 × Mm) ⊕ (Int32 × Mm))) (rm : Option (Int32 × Mm)) : Prop :=
  (∃ (Mc' Md' : Mm) (τ' ω' : Nat → Nat) (fm' fl' : Bool) (it' : Nat), rc = some (.inr (1, Mc')) ∧ rm = some (nI it', Md') ∧ OKt τ' ω' ∧ keepC t Mc Mc' ∧ keepM Md Md' ∧ Md'.1 0 8 = -1 ∧ DRc b τ' ω' fm' fl' it' Mc' ∧ DRm τ' ω' fm' fl' Md') ∨
  (∃ (Mc' Md' : Mm) (s : Nat) (v : Int32), rc = some (.inr (0, Mc')) ∧ rm = some (v, Md') ∧ s ≤ n ∧ keepC t Mc Mc' ∧ keepM Md Md' ∧ Mc'.1 1 3 = nI s ∧ Md'.1 0 8 = nI s)
theorem TwOut.from {t b n : Nat} {x : Nat → Nat} {Mc Md Mc1 Md1 : Mm} {rc : Option ((Int32 × Mm) ⊕ (Int32 × Mm))} {rm : Option (Int32 × Mm)} (h : TwOut t b n x Mc1 Md1 rc rm) (k1 : keepC t Mc Mc1) (k2 : keepM Md Md1) : TwOut t b n x Mc Md rc rm := by
  rcases h with ⟨Mc', Md', τ', ω', fm', fl', it', a1, a2, a3, a4, a5, a6⟩ | ⟨Mc', Md', s, v, a1, a2, a3, a4, a5, a6⟩
  · exact Or.inl ⟨Mc', Md', τ', ω', fm', fl', it', a1, a2, a3, k1.t a4, k2.t a5, a6⟩
  · exact Or.inr ⟨Mc', Md', s, v, a1, a2, a3, k1.t a4, k2.t a5, a6⟩
theorem town_end {n t b : Nat} {x : Nat → Nat} (hn : n ≤ 120) (hx : ∀ j, j < n → x j ≤ 255) (ht : t = 64 ∨ t = 68) (hb : b = 132 - t) {q it i nc nm : Nat} {τ ω : Nat → Nat} {fm fl : Bool} {Mc Md : Mm} (r4 : q ≤ n) (r8 : TC Mc n x q) (r9 : TM Md n x q) (r10 : Md.1 0 8 = -1) (r11 : DRc b τ ω fm fl it Mc) (r12 : DRm τ ω fm fl Md)
    (IH : ∀ (p' : Nat) (Mc' Md' : Mm), q < p' → p' ≤ n → TC Mc' n x p' → TM Md' n x p' → Md'.1 0 8 = -1 → DRc b τ ω fm fl (it + 1) Mc' → DRm τ ω fm fl Md' → TwOut t b n x Mc' Md' (fX4_reads_L21 b nc (nI (i + 1)) Mc') (fX7_town_L25 (nm + 1) (nI (it + 1)) Md')) :
    TwOut t b n x Mc Md (b2 (fX4_readsItemEnd Mc) (fun (v20 : Int32) (M21 : Mm) => if v20 = 0 then (some (.inr ((0 : Int32), M21))) else (lt (wI M21 b 3 ((M21.1 b 3) + (1 : Int32))) (fun (M23 : Mm) => fX4_reads_L21 b nc (nI i + (1 : Int32)) M23)))) (if Md.1 0 5 = 3 then b2 (fX7_takes 1 Md) (fun (_ : Int32) (M' : Mm) => fX7_town_L25 (nm + 1) (nI it + 1) M') else b2 (fX7_takes 0 Md) (fun (_ : Int32) (M' : Mm) => fX7_town_L25 (nm + 1) (nI it + 1) M')) := by
  have hS2 := tS_le x r4
  have hE2 := tE_le x r4
  have hv2 := tK_v hx q
  obtain ⟨M3, b1, bb, b3, b4, w0, w1, w2, w3⟩ := c_token hn hx r4 r8
  obtain ⟨y1, y2, y3, y4, y5, y6⟩ := id r9
  have f82 : (wI Md 0 8 (nI (tS n x q))).1 0 8 = nI (tS n x q) := wI_v _ _ _ _
  unfold fX4_readsItemEnd
  rw [b1, bP_s]
  by_cases hend : (tK n x q).1 = 3 ∧ (tK n x q).2 = 59
  · obtain ⟨z1, z2⟩ := hend
    obtain ⟨D3, u1, u2, u3⟩ := m_takes1 hn hx r4 r9 r10
    have h83 : D3.1 0 8 = -1 := by rw [u2.2 0 8 (Or.inr (Or.inr (by decide))), r10]
    have hb2 : 64 ≤ b ∧ b ≤ 68 := by omega
    have d3 := bb.D (by omega) r11
    have ne : q < tE n x q := hE2.2.2 (by omega)
    have icb : IC t b 3 := by unfold IC; omega
    have d3' : DRc b τ ω fm fl (it + 1) (wI M3 b 3 (nI (it + 1))) := by
      obtain ⟨e1, e2, e3, e4, e5, e6, e7, e8, e9⟩ := d3
      exact ⟨wI_v _ _ _ _, by rw [wI_o _ _ _ _ (by omega), e2], by rw [wI_o _ _ _ _ (by omega), e3], by rw [wI_o _ _ _ _ (by omega), e4], by rw [wI_o _ _ _ _ (by omega), e5], fun r hr => by rw [wI_o _ _ _ _ (by omega), e6 r hr], fun w hw => by rw [wI_o _ _ _ _ (by omega), wI_o _ _ _ _ (by omega)]; exact e7 w hw, by rw [wI_o _ _ _ _ (by omega), e8], by rw [wI_o _ _ _ _ (by omega), e9]⟩
    have e59 : M3.1 1 4 = 59 := by
      rw [w3 z1, z2]
      rfl
    have e3 : Md.1 0 5 = 3 := by
      rw [(y6 z1).2, if_pos z2]
      rfl
    have hih := IH (tE n x q) (wI M3 b 3 (nI (it + 1))) D3 ne hE2.2.1 (b3.w (by omega)) u3 h83 d3' (u2.D r12)
    rw [if_pos e59, b2_s, if_neg (show ¬ (1 : Int32) = 0 by decide), lt_eq, d3.1, nI_1, nI_1, if_pos e3, u1, b2_s]
    exact hih.from (bb.K.w icb) u2.K
  · have hn4 : ¬ M3.1 1 4 = 59 := by
      have : (tK n x q).1 = 0 ∨ (tK n x q).1 = 1 ∨ (tK n x q).1 = 2 ∨ (tK n x q).1 = 3 := by omega
      rcases this with z | z | z | z
      · rw [w0 z]
        decide
      · rw [(w1 z).1]
        decide
      · rw [(w2 z).1]
        decide
      · have := hv2.2.2 z
        rw [w3 z]
        intro y
        exact hend ⟨z, (nI_eq (b := 59) (by omega) (by decide)).mp y⟩
    have hn5 : ¬ Md.1 0 5 = 3 := by
      have : (tK n x q).1 = 0 ∨ (tK n x q).1 = 1 ∨ (tK n x q).1 = 2 ∨ (tK n x q).1 = 3 := by omega
      rcases this with z | z | z | z
      · rw [y3 z]
        decide
      · rw [(y4 z).1]
        decide
      · rw [y5 z]
        decide
      · rw [(y6 z).2, if_neg (fun y => hend ⟨z, y⟩)]
        split <;> decide
    rw [if_neg hn4, b2_s, if_pos rfl, if_neg hn5, m_takes0 r10, b2_s, y2, m_exit f82 (by omega)]
    exact Or.inr ⟨M3, _, tS n x q, _, rfl, rfl, hS2.2, bb.K, (keepM.r Md).w (by unfold IM; omega), b4, f82⟩
/-- what can't stand here -/
theorem town_bad {n t b : Nat} {x : Nat → Nat} (hn : n ≤ 120) {p it nm : Nat} {Mc Md M1 : Mm} (hp : p ≤ n) (g : TM Md n x p) (h8 : Md.1 0 8 = -1) (k1 : keepC t Mc M1) (a4 : M1.1 1 3 = nI (tS n x p)) {rc : Option ((Int32 × Mm) ⊕ (Int32 × Mm))} (hrc : rc = some (.inr (0, M1))) {rm : Option (Int32 × Mm)}
    (hrm : rm = b2 (fX7_takes 0 Md) (fun (v66 : Int32) (M67 : Mm) => bP (fX7_isWell M67) (fun (v69 : Int32) => if v69 = 0 then (if (M67.1 0 5) = (3 : Int32) then (b2 (fX7_takes (1 : Int32) M67) (fun (v73 : Int32) (M74 : Mm) => fX7_town_L25 (nm + 1) (nI it + (1 : Int32)) M74)) else (b2 (fX7_takes (0 : Int32) M67) (fun (v76 : Int32) (M77 : Mm) => fX7_town_L25 (nm + 1) (nI it + (1 : Int32)) M77))) else (bP (fX7_readsItem v66 M67) (fun (M79 : Mm) => if (M79.1 0 5) = (3 : Int32) then (b2 (fX7_takes (1 : Int32) M79) (fun (v82 : Int32) (M83 : Mm) => fX7_town_L25 (nm + 1) (nI it + (1 : Int32)) M83)) else (b2 (fX7_takes (0 : Int32) M79) (fun (v85 : Int32) (M86 : Mm) => fX7_town_L25 (nm + 1) (nI it + (1 : Int32)) M86))))))) : TwOut t b n x Mc Md rc rm := by
  have hS := tS_le x hp
  have f8 : (wI Md 0 8 (nI (tS n x p))).1 0 8 = nI (tS n x p) := wI_v _ _ _ _
  rw [m_takes0 h8, b2_s, g.2.1, m_ill f8 (by omega), bP_s, if_pos rfl, tail_ill f8 (by omega)] at hrm
  exact Or.inr ⟨M1, _, tS n x p, _, hrc, hrm, hS.2, k1, (keepM.r Md).w (by unfold IM; omega), a4, f8⟩
theorem town_loop {n t b : Nat} {x : Nat → Nat} (hn : n ≤ 120) (hx : ∀ j, j < n → x j ≤ 255) (ht : t = 64 ∨ t = 68) (hb : b = 132 - t) : ∀ (j p i it : Nat) (τ ω : Nat → Nat) (fm fl : Bool) (Mc Md : Mm) (nc nm : Nat), n - p ≤ j → p ≤ n → i ≤ p → j < nc → j + 1 < nm → TC Mc n x p → TM Md n x p → Md.1 0 8 = -1 → DRc b τ ω fm fl it Mc → DRm τ ω fm fl Md → OKt τ ω → TwOut t b n x Mc Md (fX4_reads_L21 b nc (nI i) Mc) (fX7_town_L25 nm (nI it) Md) := by
  intro j
  induction j with
  | zero =>
    intro p i it τ ω fm fl Mc Md nc nm hj hp hi hnc hnm h g h8 d e ok
    obtain ⟨nc, rfl⟩ : ∃ m', nc = m' + 1 := ⟨nc - 1, by omega⟩
    obtain ⟨nm, rfl⟩ : ∃ m', nm = m' + 1 := ⟨nm - 1, by omega⟩
    have hpn : p = n := by omega
    have hS := tS_le x hp
    obtain ⟨M1, a1, a2, a3, a4, a5⟩ := c_token hn hx hp h
    have hk : tK n x p = (0, 0) := by
      unfold tK
      rw [if_pos (by omega)]
    obtain ⟨k0, -⟩ := a5
    obtain ⟨g1, g2, g3, -⟩ := g
    rw [hk] at k0 g3
    rw [fX4_reads_L21, h.1, if_neg (nI_nlt (by omega) (by omega)), a1, bP_s, k0 rfl, if_pos rfl, fX7_town_L25, m_well h8, bP_s, if_neg (by decide), g3 rfl, if_pos (show nI 0 = 0 from rfl)]
    left
    exact ⟨M1, Md, τ, ω, fm, fl, it, rfl, rfl, ok, a2.K, keepM.r _, h8, a2.D (by omega) d, e⟩
  | succ j ih =>
    intro p i it τ ω fm fl Mc Md nc nm hj hp hi hnc hnm h g h8 d e ok
    obtain ⟨nc, rfl⟩ : ∃ m', nc = m' + 1 := ⟨nc - 1, by omega⟩
    obtain ⟨nm, rfl⟩ : ∃ m', nm = m' + 2 := ⟨nm - 2, by omega⟩
    have hE := tE_le x hp
    have hv := tK_v hx p
    obtain ⟨M1, a1, a2, a3, a4, k0, k1, k2, k3⟩ := c_token hn hx hp h
    obtain ⟨g1, g2, g3, g4, g5, g6⟩ := id g
    have d1 := a2.D (by omega) d
    rw [fX4_reads_L21, h.1, if_neg (nI_nlt (by omega) (by omega)), a1, bP_s, fX7_town_L25, m_well h8, bP_s, if_neg (show ¬ (1 : Int32) = 0 by decide)]
    have : (tK n x p).1 = 0 ∨ (tK n x p).1 = 1 ∨ (tK n x p).1 = 2 ∨ (tK n x p).1 = 3 := by omega
    rcases this with z | z | z | z
    · rw [k0 z, if_pos rfl, g3 z, if_pos (show nI 0 = 0 from rfl)]
      left
      exact ⟨M1, Md, τ, ω, fm, fl, it, rfl, rfl, ok, a2.K, keepM.r _, h8, d1, e⟩
    · have q1 := (k1 z).1
      rw [q1, if_neg (show ¬ (-2 : Int32) = -1 by decide), (g4 z).1, if_neg (show ¬ nI 2 = 0 by decide), if_neg (show ¬ nI 2 = 1 by decide)]
      refine town_bad hn hp g h8 a2.K a4 ?_ rfl
      unfold fX4_readsItem
      rw [q1]
      rfl
    · have q1 := (k2 z).1
      rw [q1, if_neg (show ¬ (-2 : Int32) = -1 by decide), g5 z, if_neg (show ¬ nI 4 = 0 by decide), if_neg (show ¬ nI 4 = 1 by decide)]
      refine town_bad hn hp g h8 a2.K a4 ?_ rfl
      unfold fX4_readsItem
      rw [q1]
      rfl
    · have hc255 := hv.2.2 z
      obtain ⟨g7, g8⟩ := g6 z
      have k3' := k3 z
      clear k0 k1 k2 k3 g3 g4 g5 g6
      rw [k3', if_neg (show ¬ nI (tK n x p).2 = -1 from fun z => by
        have h1 : nI (tK n x p).2 < 0 := by rw [z]; decide
        exact nI_pos (by omega) h1)]
      rcases Bool.eq_false_or_eq_true (isL (tK n x p).2) with hl | hl
      · have hc59 : ¬ (tK n x p).2 = 59 := by
          rcases isL_or hl with z | z | z | z <;> omega
        rw [if_neg hc59, if_pos hl] at g8
        rw [g8, if_neg (show ¬ nI 1 = 0 by decide), if_pos (show nI 1 = 1 from rfl), m_may e ok hl g7, bP_s]
        rcases Bool.eq_false_or_eq_true (acc τ fm fl (tK n x p).2) with ha | ha
        · obtain ⟨D1, t1, t2, t3⟩ := m_takes1 hn hx hp g h8
          have h81 : D1.1 0 8 = -1 := by rw [t2.2 0 8 (Or.inr (Or.inr (by decide))), h8]
          have hI := it_c hn hx ht hb hE.2.1 a3 d1 t3 h81 (t2.D e) ok hl k3' ha
          have hpE : p < tE n x p := hE.2.2 (by omega)
          rw [ha, if_neg (show ¬ b2i true = 0 by decide), t1, b2_s, m_well h81, bP_s, if_neg (show ¬ (1 : Int32) = 0 by decide), g7]
          rcases hI with ⟨Mc2, Md2, q2, τ', ω', fm', fl', r1, r2, r3, r4, r5, r6, r7, r8, r9, r10, r11, r12⟩ | ⟨Mc2, Md2, s, r1, r2, r3, r4, r5, r6, r7⟩
          · rw [r1, b2_s, if_neg (show ¬ (1 : Int32) = 0 by decide), r2, bP_s]
            refine TwOut.from (town_end hn hx ht hb r4 r8 r9 r10 r11 r12 (fun p' Mc' Md' w1 w2 w3 w4 w5 w6 w7 => ih p' (i + 1) (it + 1) τ' ω' fm' fl' Mc' Md' nc (nm + 1) (by omega) w2 (by omega) (by omega) (by omega) w3 w4 w5 w6 w7 r5)) (a2.K.t r6) (t2.K.t r7)
          · rw [r1, b2_s, if_pos rfl, r2, bP_s, tail_ill r7 (by omega)]
            exact Or.inr ⟨Mc2, Md2, s, _, rfl, rfl, r3, a2.K.t r4, t2.K.t r5, r6, r7⟩
        · rw [ha, if_pos (show b2i false = 0 by decide)]
          refine town_bad hn hp g h8 a2.K a4 ?_ rfl
          rw [c_no d1 ok hl k3' ha, b2_s, if_pos rfl]
      · have hne : ∀ v : Nat, v ≤ 255 → isL v = true → ¬ nI (tK n x p).2 = nI v := fun v hv hlv z => by
          have := (nI_eq (by omega) (by omega)).mp z
          rw [← this, hl] at hlv
          cases hlv
        have h05 : Md.1 0 5 = nI 3 ∨ Md.1 0 5 = nI 4 := by
          rw [g8, hl]
          by_cases z : (tK n x p).2 = 59
          · left
            rw [if_pos z]
          · right
            rw [if_neg z, if_neg (by decide)]
        have hz0 : ¬ Md.1 0 5 = 0 := by rcases h05 with z | z <;> rw [z] <;> decide
        have hz1 : ¬ Md.1 0 5 = 1 := by rcases h05 with z | z <;> rw [z] <;> decide
        rw [if_neg hz0, if_neg hz1]
        refine town_bad hn hp g h8 a2.K a4 ?_ rfl
        unfold fX4_readsItem
        rw [k3', if_neg (show ¬ nI (tK n x p).2 = 97 from hne 97 (by decide) rfl), if_neg (show ¬ nI (tK n x p).2 = 108 from hne 108 (by decide) rfl), if_neg (show ¬ nI (tK n x p).2 = 109 from hne 109 (by decide) rfl), if_neg (show ¬ nI (tK n x p).2 = 119 from hne 119 (by decide) rfl), b2_s, if_pos rfl]

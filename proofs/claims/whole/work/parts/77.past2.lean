/-! ===== Past's constructor ===== -/
def rfP (rf : Nat → Nat → Option Nat) : Nat → Nat → Nat → Option Nat
  | 0 => upR rf 7 0 8
  | i + 1 => upR (rfMo (rfP rf i) (9 + 4 * i)) 8 i (9 + 4 * i)
theorem rfMo_cl {rf : Nat → Nat → Option Nat} {N : Nat} (h : ∀ x y b, rf x y = some b → b < N) : ∀ x y b, rfMo rf N x y = some b → b < N + 4 :=
  upR_cl (upR_cl (upR_cl (N' := N + 4) h (by omega) (by omega)) (by omega) (Nat.le_refl _)) (by omega) (Nat.le_refl _)
theorem rfMo_o {rf : Nat → Nat → Option Nat} {N x y : Nat} (h : x ≠ N) : rfMo rf N x y = rf x y := by
  unfold rfMo
  rw [upR_o _ _ _ _ (Or.inl h), upR_o _ _ _ _ (Or.inl h), upR_o _ _ _ _ (Or.inl h)]
theorem rfP_cl {rf : Nat → Nat → Option Nat} (h : ∀ x y b, rf x y = some b → b < 8) : ∀ i x y b, rfP rf i x y = some b → b < 9 + 4 * i
  | 0 => upR_cl h (by omega) (by omega)
  | i + 1 => upR_cl (N := 9 + 4 * i + 4) (N' := 9 + 4 * (i + 1)) (rfMo_cl (rfP_cl h i)) (by omega) (by omega)
theorem rfP_n {rf : Nat → Nat → Option Nat} (h : ∀ x, 7 < x → ∀ k, rf x k = none) : ∀ i x, 9 + 4 * i ≤ x → ∀ k, rfP rf i x k = none
  | 0, x, hx, k => by
    rw [rfP, upR_o _ _ _ _ (Or.inl (by omega))]
    exact h x (by omega) k
  | i + 1, x, hx, k => by
    rw [rfP, upR_o _ _ _ _ (Or.inl (by omega)), rfMo_o (by omega)]
    exact rfP_n h i x (by omega) k
theorem rfP_7 (rf : Nat → Nat → Option Nat) : ∀ i, rfP rf i 7 0 = some 8
  | 0 => upR_v _ _ _ _
  | i + 1 => by
    rw [rfP, upR_o _ _ _ _ (Or.inl (by omega)), rfMo_o (by omega)]
    exact rfP_7 rf i
abbrev PcH (As : List Value) (D : va_G) (cy : Nat → ClassId) (ad : Nat → Nat) (sh : Nat → Nat × Nat) (rf : Nat → Nat → Option Nat) (N : Nat) (M : Mm) (sz : Nat) : Array Value → State → Prop :=
  va_Pc As (fun U => U.heap.size = sz ∧ va_P D vwCl (wsF ad (cof cy ad kdI sh rf M) N) U.heap ∧ va_K D vwCl (tysV cy) U ∧ Nst U ∧ va_AO RX1 U)
section FG3
variable {p : Program} {l : Launch} {e : Env} {R : Room} {s : State} {m : MethodId} {args : Array Value} {below : List Frame} {meth : Method} {c : Code} {H : Heap} {locs : List Loc} {cells slots : Nat} {Q : State → Prop}
variable {cc : ByteArray} {pc nL : Nat} {ls : Array Slot} {rest st0 : List Value} {Ts : List Cond} {own : String}
variable {D : va_G} {cy : Nat → ClassId} {ad : Nat → Nat} {kd : Nat → List Nat} {sh : Nat → Nat × Nat} {rf : Nat → Nat → Option Nat} {N : Nat} {A : Nat → Prop} {M : Mm} {a : Nat}
theorem fg_get (S : CallFix p m c cc nL s args Ts own) (hK : va_K D vwCl (tysV cy) s) {C ref : String} {T : u_T} {NF ci index : Nat} (hin : ∀ w ∈ u_ws C T NF, w ∈ Ts) (hc : vwCl[ci]? = some (C, T, NF)) (ha : a < N) (hsh : sh a = (0, ci)) (k : Nat) (hk : k < NF) (hlink : (Cond.fieldLink own index ref (T k).2.1 (T k).2.2.1).before args s = true) (hsame : ∀ x, s.fieldFound? (T k).1 (T k).2.1 (T k).2.2.1 = some x → s.fieldFound? ref (T k).2.1 (T k).2.2.1 = some x) {h : Nat} (hh : ad a = h) {v : Value} (hv : (fvs ad rf M a 0 (kd ci))[k]? = some v) (hW : WSt D cy ad kd sh rf N A M s.heap H locs) (hdg : decode cc pc = .ok (.getfield index, 3))
    (kk : W p l e R s m args below meth c H locs cells slots Q (F0 m (pc + 3) ls (v :: rest))) : W p l e R s m args below meth c H locs cells slots Q (F0 m pc ls (.ref h :: rest)) := by
  subst hh
  exact fl_get S hK hin hc ha hsh k hk hlink hsame hv hW hdg kk
end FG3
theorem shC_P : ∀ i, i < 10 → shC (9 + 4 * i) = (0, 1) ∧ shC (9 + 4 * i + 1) = (1, 6) ∧ shC (9 + 4 * i + 2) = (1, 6) ∧ shC (9 + 4 * i + 3) = (1, 6) := by decide
set_option maxHeartbeats 4000000 in
set_option maxRecDepth 100000 in
theorem kX2_init (l : Launch) {D : va_G} {cy : Nat → ClassId} {ad : Nat → Nat} (rf : Nat → Nat → Option Nat) (M : Mm) (hJ : Inj ad 8) (hcl : ∀ x y b, rf x y = some b → b < 8) (hrn : ∀ x, 7 < x → ∀ k, rf x k = none) (hM : ∀ x, 7 < x → ∀ j, M.1 x j = 0) (sz : Nat) : Met l yX2_init vX2_init ({ frames := 2, cells := 41, slots := 250, locals := 40 } : Room) (PcH [.ref (ad 7)] D cy ad shC rf 8 M sz) (QvG D cy ad shC (rfP rf 10) 8 49 (wI (wI M 7 1 0) 7 2 0) sz) 41 250 (AG ad 8 sz) := by
  refine Met.ofW (cc := cX2_init) (maxL := 2) (ret := none) (by decide) rfl ?_
  intro p e s m args below meth c s₁ B hml hv
  obtain ⟨rfl, hsz, hP, hK, hN, hO⟩ := hv
  subst hsz
  have hr := B.returns
  have hlocks := B.notSynchronized
  have hinit : meth.name = "<init>" := (name_of_methodNamed B.named B.method).1
  have S : CallFix p m c cX2_init 2 s ([.ref (ad 7)] : List Value).toArray vX2_init RX2 := ⟨B.exec, B.bytes, hml, findClass_of_methodNamed B.named, atoms_spec (ws := vX2_init) B.pre⟩
  have hq : ∀ w ∈ GW, w.before ([.ref (ad 7)] : List Value).toArray s = true := fun w h => S.2.2.2.2 w (List.mem_cons_of_mem _ h)
  have hA : ∀ q, s.heap.size ≤ q → AG ad 8 s.heap.size q := fun q h => Or.inr h
  have hA0 : ∀ k, k < 8 → AG ad 8 s.heap.size (ad k) := fun k hk => Or.inl ⟨k, hk, rfl⟩
  have hD : va_D (AG ad 8 s.heap.size) (wsF ad (cof cy ad kdI shC rf M) 8) := wsF_D hJ hA0
  have hW : WSt D cy ad kdI shC rf 8 (AG ad 8 s.heap.size) M s.heap s.heap [] := ⟨hP, va_S.rf⟩
  clear hP
  have iX2 : ∀ w ∈ wsX20, w ∈ vX2_init := fun w h => List.mem_cons_of_mem _ (inX2 w h)
  have iX1 : ∀ w ∈ wsX10, w ∈ vX2_init := fun w h => List.mem_cons_of_mem _ (inX1 w h)
  have hl := lv_entry ([.ref (ad 7)]) (n := 2) (Nat.le_of_ble_eq_true rfl)
  rw [lg_entry_eq]
  generalize (lg_sl ([.ref (ad 7)]) ++ List.replicate (2 - (lg_sl ([.ref (ad 7)])).length) Slot.unset).toArray = ls at hl ⊢
  have hl : lv_has ls 2 [(0, .ref (ad 7))] := hl
  refine lv_aload_n S.1 S.2.1 dX2_init_0 rfl (lv_at hl 0 rfl) ?_
  refine W.objInit S.1 S.2.1 S.2.2.2.1 (hq _ z_1_90) (hq _ z_1_18) (hq _ z_1_19) rfl (by rw [hml]; exact hl.1) rfl dX2_init_1 (Nat.le_of_ble_eq_true rfl) (Nat.le_of_ble_eq_true rfl) ?_
  refine W.eq (g2 := F0 m 4 ls []) rfl ?_
  refine lv_aload_n S.1 S.2.1 dX2_init_4 rfl (lv_at hl 0 rfl) ?_
  refine lv_bipush (v := (10 : Int32)) S.1 S.2.1 dX2_init_5 (by decide) ?_
  refine fg_newR S hK hO (hq _ z_1_91) (n := 10) (by decide) rfl (show shC 8 = (3, 10) from rfl) (hrn 8 (by decide)) hcl (by decide) hA (Nat.le_of_ble_eq_true rfl) (Nat.le_of_ble_eq_true rfl) hW hD dX2_init_7 (fun q1 H hW hD => ?_)
  have e1 : upA ad 8 q1 7 = ad 7 := upA_k _ _ _ (by omega)
  have f1 : upA ad 8 q1 8 = q1 := upA_v _ _ _
  have g1 : ∀ k, k < 8 → upA ad 8 q1 k = ad k := fun k hk => upA_k _ _ _ (by omega)
  generalize upA ad 8 q1 = ad1 at hW hD e1 f1 g1
  refine fg_putF S hK (D_J hD) (D_A hD) hinit tyX2 tyX2_ok nmX2 iX2 rfl (a := 7) (by omega) (show shC 7 = (0, 2) from rfl) 0 (by decide) (hq _ z_1_94) (fun _ h9 => h9) rfl rfl (b := 8) e1 f1 rfl rfl rfl rfl hW dX2_init_10 (fun H locs hW => ?_)
  refine lv_aload_n S.1 S.2.1 dX2_init_13 rfl (lv_at hl 0 rfl) ?_
  refine lv_iconst (v := (0 : Int32)) S.1 S.2.1 dX2_init_14 (by decide) ?_
  refine fg_putI S hK (D_J hD) (D_A hD) tyX2 tyX2_ok nmX2 iX2 rfl (a := 7) (by omega) (show shC 7 = (0, 2) from rfl) 1 (by decide) (hq _ z_1_95) (fun _ h9 => h9) rfl e1 rfl rfl rfl rfl hW dX2_init_15 (fun H locs hW => ?_)
  refine lv_aload_n S.1 S.2.1 dX2_init_18 rfl (lv_at hl 0 rfl) ?_
  refine lv_iconst (v := (0 : Int32)) S.1 S.2.1 dX2_init_19 (by decide) ?_
  refine fg_putI S hK (D_J hD) (D_A hD) tyX2 tyX2_ok nmX2 iX2 rfl (a := 7) (by omega) (show shC 7 = (0, 2) from rfl) 2 (by decide) (hq _ z_1_96) (fun _ h9 => h9) rfl e1 rfl rfl rfl rfl hW dX2_init_20 (fun H locs hW => ?_)
  refine lv_iconst (v := (0 : Int32)) S.1 S.2.1 dX2_init_23 (by decide) ?_
  refine lv_istore_n (lv' := [(1, .int (0 : Int32)), (0, .ref (ad 7))]) S.1 S.2.1 dX2_init_24 rfl hl (by decide) rfl (fun ls hl => ?_)
  have hM2 : ∀ x, 7 < x → ∀ j, (wI (wI M 7 1 0) 7 2 0).1 x j = 0 := fun x hx j => by
    rw [wI_o _ _ _ _ (by omega), wI_o _ _ _ _ (by omega)]
    exact hM x hx j
  generalize wI (wI M 7 1 0) 7 2 0 = M2 at *
  have L : ∀ (j i : Nat), i + j = 10 → ∀ (ad' : Nat → Nat) (H : Heap) (locs : List Loc) (ls : Array Slot), lv_has ls 2 [(1, .int (nI i)), (0, .ref (ad 7))] → (∀ k, k < 8 → ad' k = ad k) → WSt D cy ad' kdI shC (rfP rf i) (9 + 4 * i) (AG ad 8 s.heap.size) M2 s.heap H locs → va_D (AG ad 8 s.heap.size) (wsF ad' (cof cy ad' kdI shC (rfP rf i) M2) (9 + 4 * i)) → W p l e (headSpec vX2_init ({ frames := 2, cells := 41, slots := 250, locals := 40 } : Room)).room s m ([.ref (ad 7)] : List Value).toArray below meth c H locs (1 + 4 * i) (10 + 24 * i) (MQ below (QvG D cy ad shC (rfP rf 10) 8 49 M2 s.heap.size) ([.ref (ad 7)] : List Value).toArray s 41 250 (AG ad 8 s.heap.size)) (F0 m 25 ls []) := by
    intro j
    induction j with
    | zero =>
      intro i hi ad' H locs ls hl hag hW hD
      have : i = 10 := by omega
      subst this
      refine lv_iload_n S.1 S.2.1 dX2_init_25 rfl (lv_at hl 0 rfl) ?_
      refine lv_bipush (v := (10 : Int32)) S.1 S.2.1 dX2_init_26 (by decide) ?_
      refine lv_icmp_ge (tgt := 50) S.1 S.2.1 dX2_init_28 (by decide) (fun c9 => ?_) (fun c9 => absurd (show (10 : Int32) ≤ nI 10 by decide) c9)
      exact W.vret S.1 S.2.1 hr (fun t ht _ => ⟨⟨ad', rfl, hag, by subst ht; exact hW.1, hD⟩, hW.2.F ht⟩) hW.2.2.2 dX2_init_50 hlocks
    | succ j ih =>
      intro i hi ad' H locs ls hl hag hW hD
      have h10 : i < 10 := by omega
      obtain ⟨p0, p1, p2, p3⟩ := shC_P i h10
      refine lv_iload_n S.1 S.2.1 dX2_init_25 rfl (lv_at hl 0 rfl) ?_
      refine lv_bipush (v := (10 : Int32)) S.1 S.2.1 dX2_init_26 (by decide) ?_
      refine lv_icmp_ge (tgt := 50) S.1 S.2.1 dX2_init_28 (by decide) (fun c9 => absurd c9 (show ¬ (10 : Int32) ≤ nI i from nI_ge (b := 10) h10 (by decide))) (fun c9 => ?_)
      refine lv_aload_n S.1 S.2.1 dX2_init_31 rfl (lv_at hl 1 rfl) ?_
      refine fg_get S hK iX2 rfl (a := 7) (by omega) (show shC 7 = (0, 2) from rfl) 0 (by decide) (hq _ z_1_94) (fun _ h9 => h9) (hag 7 (by omega)) (fvs_R rfl (rfP_7 rf i)) hW dX2_init_32 ?_
      refine lv_iload_n S.1 S.2.1 dX2_init_35 rfl (lv_at hl 0 rfl) ?_
      refine fg_mkMoment S hK hN hq iX1 (gN z_1_58) (hq _ z_1_91) (hN.m 3 rfl) p0 p1 p2 p3 (rfP_n hrn i _ (Nat.le_refl _)) (fun x hx => hM2 x (by omega)) (rfP_cl hcl i) hA (by show 1 + 4 * i + 4 ≤ 41; omega) (by show 10 + 24 * i + 24 ≤ 250; omega) (Nat.le_of_ble_eq_true rfl) (Nat.le_of_ble_eq_true rfl) hl.1 (Nat.le_of_ble_eq_true rfl) hW hD dX2_init_36 dX2_init_39 dX2_init_40 (fun ad2 H locs hag2 hW hD => ?_)
      have hin : vp_in (nI i) 10 := nI_in h10 (by decide)
      refine fg_aast S hK (D_J hD) (D_A hD) (a := 8) (b := 9 + 4 * i) (n := 10) (by omega) (show shC 8 = (3, 10) from rfl) (by omega) p0 (hag2 8 (by omega)) rfl hin hW dX2_init_43 (fun H locs hW => ?_)
      rw [nI_clamp (by omega)] at hW
      refine lv_iinc (v := nI (i + 1)) (lv' := [(1, .int (nI (i + 1))), (0, .ref (ad 7))]) S.1 S.2.1 dX2_init_44 hl (k := 0) rfl (show nI i + Int32.ofInt 1 = nI (i + 1) from nI_1 i) (by decide) rfl (fun ls hl => ?_)
      refine lv_goto (tgt := 25) S.1 S.2.1 dX2_init_47 (by decide) ?_
      have hD2 := wsF_D (cf := cof cy ad2 kdI shC (rfP rf (i + 1)) M2) (D_J hD) (D_A hD)
      have := ih (i + 1) (by omega) ad2 H locs ls hl (fun k hk => (hag2 k (by omega)).trans (hag k hk)) hW hD2
      rw [show 1 + 4 * i + 1 + 3 = 1 + 4 * (i + 1) by omega, show 10 + 24 * i + 6 + 18 = 10 + 24 * (i + 1) by omega]
      exact this
  exact L 10 0 rfl ad1 H locs ls hl g1 hW (wsF_D (D_J hD) (D_A hD))

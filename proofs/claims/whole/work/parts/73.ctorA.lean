/-! ===== the small constructors ===== -/
theorem upR_cl {rf : Nat → Nat → Option Nat} {N N' a k b0 : Nat} (h : ∀ x y b, rf x y = some b → b < N) (hb : b0 < N') (hN : N ≤ N') : ∀ x y b, upR rf a k b0 x y = some b → b < N' := by
  intro x y b e
  unfold upR at e
  split at e
  · cases e
    exact hb
  · have := h x y b e
    omega
set_option maxHeartbeats 4000000 in
set_option maxRecDepth 100000 in
theorem kX1_init (l : Launch) {D : va_G} {cy : Nat → ClassId} {ad : Nat → Nat} (a : Nat) (h0 : shC a = (0, 1)) (h1 : shC (a + 1) = (1, 6)) (h2 : shC (a + 2) = (1, 6)) (h3 : shC (a + 3) = (1, 6)) (rf : Nat → Nat → Option Nat) (M : Mm) (hJ : Inj ad (a + 1)) (hcl : ∀ x y b, rf x y = some b → b < a + 1) (hM : ∀ x, a < x → ∀ j, M.1 x j = 0) (sz : Nat) : Met l yX1_init vX1_init ({ frames := 1, cells := 3, slots := 18, locals := 12 } : Room) (PcG [.ref (ad a)] D cy ad shC rf (a + 1) M sz) (QvG D cy ad shC (upR (upR (upR rf a 0 (a + 1)) a 1 (a + 2)) a 2 (a + 3)) (a + 1) (a + 4) M sz) 3 18 (AG ad (a + 1) sz) := by
  refine Met.ofW (cc := cX1_init) (maxL := 1) (ret := none) (by decide) rfl ?_
  intro p e s m args below meth c s₁ B hml hv
  obtain ⟨rfl, hsz, hP, hK, hN⟩ := hv
  subst hsz
  have hr := B.returns
  have hlocks := B.notSynchronized
  have hinit : meth.name = "<init>" := (name_of_methodNamed B.named B.method).1
  have S : CallFix p m c cX1_init 1 s ([.ref (ad a)] : List Value).toArray vX1_init RX1 := ⟨B.exec, B.bytes, hml, findClass_of_methodNamed B.named, atoms_spec (ws := vX1_init) B.pre⟩
  have hq : ∀ w ∈ GW, w.before ([.ref (ad a)] : List Value).toArray s = true := fun w h => S.2.2.2.2 w (List.mem_cons_of_mem _ h)
  have hA : ∀ q, s.heap.size ≤ q → AG ad (a + 1) s.heap.size q := fun q h => Or.inr h
  have hA0 : ∀ k, k < a + 1 → AG ad (a + 1) s.heap.size (ad k) := fun k hk => Or.inl ⟨k, hk, rfl⟩
  have hD : va_D (AG ad (a + 1) s.heap.size) (wsF ad (cof cy ad kdI shC rf M) (a + 1)) := wsF_D hJ hA0
  have hW : WSt D cy ad kdI shC rf (a + 1) (AG ad (a + 1) s.heap.size) M s.heap s.heap [] := ⟨hP, va_S.rf⟩
  clear hP
  have iX1 : ∀ w ∈ wsX10, w ∈ vX1_init := fun w h => List.mem_cons_of_mem _ (inX1 w h)
  have hl := lv_entry ([.ref (ad a)]) (n := 1) (Nat.le_of_ble_eq_true rfl)
  rw [lg_entry_eq]
  generalize (lg_sl ([.ref (ad a)]) ++ List.replicate (1 - (lg_sl ([.ref (ad a)])).length) Slot.unset).toArray = ls at hl ⊢
  have hl : lv_has ls 1 [(0, .ref (ad a))] := hl
  refine lv_aload_n S.1 S.2.1 dX1_init_0 rfl (lv_at hl 0 rfl) ?_
  refine W.objInit S.1 S.2.1 S.2.2.2.1 (hq _ z_1_59) (hq _ z_1_18) (hq _ z_1_19) rfl (by rw [hml]; exact hl.1) rfl dX1_init_1 (Nat.le_of_ble_eq_true rfl) (Nat.le_of_ble_eq_true rfl) ?_
  refine W.eq (g2 := F0 m 4 ls []) rfl ?_
  refine lv_aload_n S.1 S.2.1 dX1_init_4 rfl (lv_at hl 0 rfl) ?_
  refine lv_bipush (v := (6 : Int32)) S.1 S.2.1 dX1_init_5 (by decide) ?_
  refine fg_newI S hK (hq _ z_1_53) (n := 6) (by decide) rfl h1 (hM _ (by omega)) kdI_lt hcl (by decide) hA (Nat.le_of_ble_eq_true rfl) (Nat.le_of_ble_eq_true rfl) hW hD dX1_init_7 (fun q1 H hW hD => ?_)
  have e1 : upA ad (a + 1) q1 a = ad a := upA_k _ _ _ (by omega)
  have f1 : upA ad (a + 1) q1 (a + 1) = q1 := upA_v _ _ _
  have g1 : ∀ k, k < a + 1 → upA ad (a + 1) q1 k = ad k := fun k hk => upA_k _ _ _ (by omega)
  generalize upA ad (a + 1) q1 = ad1 at hW hD e1 f1 g1
  refine fg_putF S hK (D_J hD) (D_A hD) hinit tyX1 tyX1_ok nmX1 iX1 rfl (a := a) (by omega) h0 0 (by decide) (hq _ z_1_60) (fun _ h9 => h9) rfl rfl (b := a + 1) e1 f1 rfl rfl rfl rfl hW dX1_init_9 (fun H locs hW => ?_)
  have hcl1 := upR_cl (a := a) (k := 0) (b0 := a + 1) (N' := a + 2) hcl (by omega) (by omega)
  have hD1 := wsF_D (cf := cof cy ad1 kdI shC (upR rf a 0 (a + 1)) M) (D_J hD) (D_A hD)
  refine lv_aload_n S.1 S.2.1 dX1_init_12 rfl (lv_at hl 0 rfl) ?_
  refine lv_bipush (v := (6 : Int32)) S.1 S.2.1 dX1_init_13 (by decide) ?_
  refine fg_newI S hK (hq _ z_1_53) (n := 6) (N := a + 2) (by decide) rfl h2 (hM _ (by omega)) kdI_lt hcl1 (by decide) hA (Nat.le_of_ble_eq_true rfl) (Nat.le_of_ble_eq_true rfl) hW hD1 dX1_init_15 (fun q2 H hW hD => ?_)
  have e2 : upA ad1 (a + 2) q2 a = ad a := (upA_k _ _ _ (by omega)).trans e1
  have f2 : upA ad1 (a + 2) q2 (a + 2) = q2 := upA_v _ _ _
  have g2 : ∀ k, k < a + 1 → upA ad1 (a + 2) q2 k = ad k := fun k hk => (upA_k _ _ _ (by omega)).trans (g1 k hk)
  generalize upA ad1 (a + 2) q2 = ad2 at hW hD e2 f2 g2
  refine fg_putF S hK (D_J hD) (D_A hD) hinit tyX1 tyX1_ok nmX1 iX1 rfl (a := a) (by omega) h0 1 (by decide) (hq _ z_1_62) (fun _ h9 => h9) rfl rfl (b := a + 2) e2 f2 rfl rfl rfl rfl hW dX1_init_17 (fun H locs hW => ?_)
  have hcl2 := upR_cl (a := a) (k := 1) (b0 := a + 2) (N' := a + 3) hcl1 (by omega) (by omega)
  have hD2 := wsF_D (cf := cof cy ad2 kdI shC (upR (upR rf a 0 (a + 1)) a 1 (a + 2)) M) (D_J hD) (D_A hD)
  refine lv_aload_n S.1 S.2.1 dX1_init_20 rfl (lv_at hl 0 rfl) ?_
  refine lv_bipush (v := (6 : Int32)) S.1 S.2.1 dX1_init_21 (by decide) ?_
  refine fg_newI S hK (hq _ z_1_53) (n := 6) (N := a + 3) (by decide) rfl h3 (hM _ (by omega)) kdI_lt hcl2 (by decide) hA (Nat.le_of_ble_eq_true rfl) (Nat.le_of_ble_eq_true rfl) hW hD2 dX1_init_23 (fun q3 H hW hD => ?_)
  have e3 : upA ad2 (a + 3) q3 a = ad a := (upA_k _ _ _ (by omega)).trans e2
  have f3 : upA ad2 (a + 3) q3 (a + 3) = q3 := upA_v _ _ _
  have g3 : ∀ k, k < a + 1 → upA ad2 (a + 3) q3 k = ad k := fun k hk => (upA_k _ _ _ (by omega)).trans (g2 k hk)
  generalize upA ad2 (a + 3) q3 = ad3 at hW hD e3 f3 g3
  refine fg_putF S hK (D_J hD) (D_A hD) hinit tyX1 tyX1_ok nmX1 iX1 rfl (a := a) (by omega) h0 2 (by decide) (hq _ z_1_64) (fun _ h9 => h9) rfl rfl (b := a + 3) e3 f3 rfl rfl rfl rfl hW dX1_init_25 (fun H locs hW => ?_)
  have hD3 := wsF_D (cf := cof cy ad3 kdI shC (upR (upR (upR rf a 0 (a + 1)) a 1 (a + 2)) a 2 (a + 3)) M) (D_J hD) (D_A hD)
  exact W.vret S.1 S.2.1 hr (fun t ht _ => ⟨⟨ad3, rfl, g3, by subst ht; exact hW.1, hD3⟩, hW.2.F ht⟩) hW.2.2.2 dX1_init_28 hlocks

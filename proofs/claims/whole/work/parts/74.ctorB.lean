/-! ===== constructors, printed ===== -/
set_option maxHeartbeats 4000000 in
set_option maxRecDepth 100000 in
theorem kX4_init (l : Launch) {D : va_G} {cy : Nat → ClassId} {ad : Nat → Nat} (a : Nat) (h0 : shC a = (0, 4)) (h1 : shC (a + 1) = (1, 120)) (rf : Nat → Nat → Option Nat) (M : Mm) (hJ : Inj ad (a + 1)) (hcl : ∀ x y b, rf x y = some b → b < a + 1) (hM : ∀ x, a < x → ∀ j, M.1 x j = 0) (sz : Nat) : Met l yX4_init vX4_init ({ frames := 1, cells := 1, slots := 120, locals := 12 } : Room) (PcG [.ref (ad a)] D cy ad shC rf (a + 1) M sz) (QvG D cy ad shC (upR rf a 0 (a + 1)) (a + 1) (a + 2) (wI M a 1 0) sz) 1 120 (AG ad (a + 1) sz) := by
  refine Met.ofW (cc := cX4_init) (maxL := 1) (ret := none) (by decide) rfl ?_
  intro p e s m args below meth c s₁ B hml hv
  obtain ⟨rfl, hsz, hP, hK, hN⟩ := hv
  subst hsz
  have hr := B.returns
  have hlocks := B.notSynchronized
  have hinit : meth.name = "<init>" := (name_of_methodNamed B.named B.method).1
  have S : CallFix p m c cX4_init 1 s ([.ref (ad a)] : List Value).toArray vX4_init RX4 := ⟨B.exec, B.bytes, hml, findClass_of_methodNamed B.named, atoms_spec (ws := vX4_init) B.pre⟩
  have hq : ∀ w ∈ GW, w.before ([.ref (ad a)] : List Value).toArray s = true := fun w h => S.2.2.2.2 w (List.mem_cons_of_mem _ h)
  have hA : ∀ q, s.heap.size ≤ q → AG ad (a + 1) s.heap.size q := fun q h => Or.inr h
  have hA0 : ∀ k, k < a + 1 → AG ad (a + 1) s.heap.size (ad k) := fun k hk => Or.inl ⟨k, hk, rfl⟩
  have hD : va_D (AG ad (a + 1) s.heap.size) (wsF ad (cof cy ad kdI shC rf M) (a + 1)) := wsF_D hJ hA0
  have hW : WSt D cy ad kdI shC rf (a + 1) (AG ad (a + 1) s.heap.size) M s.heap s.heap [] := ⟨hP, va_S.rf⟩
  clear hP
  have iX4 : ∀ w ∈ wsX40, w ∈ vX4_init := fun w h => List.mem_cons_of_mem _ (inX4 w h)
  have hl := lv_entry ([.ref (ad a)]) (n := 1) (Nat.le_of_ble_eq_true rfl)
  rw [lg_entry_eq]
  generalize (lg_sl ([.ref (ad a)]) ++ List.replicate (1 - (lg_sl ([.ref (ad a)])).length) Slot.unset).toArray = ls at hl ⊢
  have hl : lv_has ls 1 [(0, .ref (ad a))] := hl
  refine lv_aload_n S.1 S.2.1 dX4_init_0 rfl (lv_at hl 0 rfl) ?_
  refine W.objInit S.1 S.2.1 S.2.2.2.1 (hq _ z_1_25) (hq _ z_1_18) (hq _ z_1_19) rfl (by rw [hml]; exact hl.1) rfl dX4_init_1 (Nat.le_of_ble_eq_true rfl) (Nat.le_of_ble_eq_true rfl) ?_
  refine W.eq (g2 := F0 m 4 ls []) rfl ?_
  refine lv_aload_n S.1 S.2.1 dX4_init_4 rfl (lv_at hl 0 rfl) ?_
  refine lv_bipush (v := (120 : Int32)) S.1 S.2.1 dX4_init_5 (by decide) ?_
  refine fg_newI S hK (hq _ z_1_53) (n := 120) (N := a + 1) (by decide) rfl h1 (hM _ (by omega)) kdI_lt hcl (by decide) hA (Nat.le_of_ble_eq_true rfl) (Nat.le_of_ble_eq_true rfl) hW hD dX4_init_7 (fun q1 H hW hD => ?_)
  have e1 : upA ad (a + 1) q1 a = ad a := (upA_k _ _ _ (by omega))
  have f1 : upA ad (a + 1) q1 (a + 1) = q1 := upA_v _ _ _
  have g1 : ∀ k, k < a + 1 → upA ad (a + 1) q1 k = ad k := fun k hk => (upA_k _ _ _ (by omega))
  generalize upA ad (a + 1) q1 = ad1 at hW hD e1 f1 g1
  refine fg_putF S hK (D_J hD) (D_A hD) hinit tyX4 tyX4_ok nmX4 iX4 rfl (a := a) (by omega) h0 0 (by decide) (hq _ z_1_26) (fun _ h9 => h9) rfl rfl (b := a + 1) e1 f1 rfl rfl rfl rfl hW dX4_init_9 (fun H locs hW => ?_)
  have hcl1 := upR_cl (a := a) (k := 0) (b0 := a + 1) (N' := a + 2) hcl (by omega) (by omega)
  have hD1 := wsF_D (cf := cof cy ad1 kdI shC (upR rf a 0 (a + 1)) M) (D_J hD) (D_A hD)
  refine lv_aload_n S.1 S.2.1 dX4_init_12 rfl (lv_at hl 0 rfl) ?_
  refine lv_iconst (v := (0 : Int32)) S.1 S.2.1 dX4_init_13 (by decide) ?_
  refine fg_putI S hK (D_J hD) (D_A hD) tyX4 tyX4_ok nmX4 iX4 rfl (a := a) (by omega) h0 1 (by decide) (hq _ z_1_27) (fun _ h9 => h9) rfl e1 rfl rfl rfl rfl hW dX4_init_14 (fun H locs hW => ?_)
  have hDe := wsF_D (cf := cof cy ad1 kdI shC (upR rf a 0 (a + 1)) (wI M a 1 0)) (D_J hD) (D_A hD)
  exact W.vret S.1 S.2.1 hr (fun t ht _ => ⟨⟨ad1, rfl, g1, by subst ht; exact hW.1, hDe⟩, hW.2.F ht⟩) hW.2.2.2 dX4_init_17 hlocks
set_option maxHeartbeats 4000000 in
set_option maxRecDepth 100000 in
theorem kX3_init (l : Launch) {D : va_G} {cy : Nat → ClassId} {ad : Nat → Nat} (a : Nat) (h0 : shC a = (0, 3)) (h1 : shC (a + 1) = (1, 6)) (h2 : shC (a + 2) = (2, 6)) (rf : Nat → Nat → Option Nat) (M : Mm) (hJ : Inj ad (a + 1)) (hcl : ∀ x y b, rf x y = some b → b < a + 1) (hM : ∀ x, a < x → ∀ j, M.1 x j = 0) (sz : Nat) : Met l yX3_init vX3_init ({ frames := 1, cells := 2, slots := 12, locals := 12 } : Room) (PcG [.ref (ad a)] D cy ad shC rf (a + 1) M sz) (QvG D cy ad shC (upR (upR rf a 0 (a + 1)) a 1 (a + 2)) (a + 1) (a + 3) (wI M a 2 0) sz) 2 12 (AG ad (a + 1) sz) := by
  refine Met.ofW (cc := cX3_init) (maxL := 1) (ret := none) (by decide) rfl ?_
  intro p e s m args below meth c s₁ B hml hv
  obtain ⟨rfl, hsz, hP, hK, hN⟩ := hv
  subst hsz
  have hr := B.returns
  have hlocks := B.notSynchronized
  have hinit : meth.name = "<init>" := (name_of_methodNamed B.named B.method).1
  have S : CallFix p m c cX3_init 1 s ([.ref (ad a)] : List Value).toArray vX3_init RX3 := ⟨B.exec, B.bytes, hml, findClass_of_methodNamed B.named, atoms_spec (ws := vX3_init) B.pre⟩
  have hq : ∀ w ∈ GW, w.before ([.ref (ad a)] : List Value).toArray s = true := fun w h => S.2.2.2.2 w (List.mem_cons_of_mem _ h)
  have hA : ∀ q, s.heap.size ≤ q → AG ad (a + 1) s.heap.size q := fun q h => Or.inr h
  have hA0 : ∀ k, k < a + 1 → AG ad (a + 1) s.heap.size (ad k) := fun k hk => Or.inl ⟨k, hk, rfl⟩
  have hD : va_D (AG ad (a + 1) s.heap.size) (wsF ad (cof cy ad kdI shC rf M) (a + 1)) := wsF_D hJ hA0
  have hW : WSt D cy ad kdI shC rf (a + 1) (AG ad (a + 1) s.heap.size) M s.heap s.heap [] := ⟨hP, va_S.rf⟩
  clear hP
  have iX3 : ∀ w ∈ wsX30, w ∈ vX3_init := fun w h => List.mem_cons_of_mem _ (inX3 w h)
  have hl := lv_entry ([.ref (ad a)]) (n := 1) (Nat.le_of_ble_eq_true rfl)
  rw [lg_entry_eq]
  generalize (lg_sl ([.ref (ad a)]) ++ List.replicate (1 - (lg_sl ([.ref (ad a)])).length) Slot.unset).toArray = ls at hl ⊢
  have hl : lv_has ls 1 [(0, .ref (ad a))] := hl
  refine lv_aload_n S.1 S.2.1 dX3_init_0 rfl (lv_at hl 0 rfl) ?_
  refine W.objInit S.1 S.2.1 S.2.2.2.1 (hq _ z_1_135) (hq _ z_1_18) (hq _ z_1_19) rfl (by rw [hml]; exact hl.1) rfl dX3_init_1 (Nat.le_of_ble_eq_true rfl) (Nat.le_of_ble_eq_true rfl) ?_
  refine W.eq (g2 := F0 m 4 ls []) rfl ?_
  refine lv_aload_n S.1 S.2.1 dX3_init_4 rfl (lv_at hl 0 rfl) ?_
  refine lv_bipush (v := (6 : Int32)) S.1 S.2.1 dX3_init_5 (by decide) ?_
  refine fg_newI S hK (hq _ z_1_53) (n := 6) (N := a + 1) (by decide) rfl h1 (hM _ (by omega)) kdI_lt hcl (by decide) hA (Nat.le_of_ble_eq_true rfl) (Nat.le_of_ble_eq_true rfl) hW hD dX3_init_7 (fun q1 H hW hD => ?_)
  have e1 : upA ad (a + 1) q1 a = ad a := (upA_k _ _ _ (by omega))
  have f1 : upA ad (a + 1) q1 (a + 1) = q1 := upA_v _ _ _
  have g1 : ∀ k, k < a + 1 → upA ad (a + 1) q1 k = ad k := fun k hk => (upA_k _ _ _ (by omega))
  generalize upA ad (a + 1) q1 = ad1 at hW hD e1 f1 g1
  refine fg_putF S hK (D_J hD) (D_A hD) hinit tyX3 tyX3_ok nmX3 iX3 rfl (a := a) (by omega) h0 0 (by decide) (hq _ z_1_136) (fun _ h9 => h9) rfl rfl (b := a + 1) e1 f1 rfl rfl rfl rfl hW dX3_init_9 (fun H locs hW => ?_)
  have hcl1 := upR_cl (a := a) (k := 0) (b0 := a + 1) (N' := a + 2) hcl (by omega) (by omega)
  have hD1 := wsF_D (cf := cof cy ad1 kdI shC (upR rf a 0 (a + 1)) M) (D_J hD) (D_A hD)
  refine lv_aload_n S.1 S.2.1 dX3_init_12 rfl (lv_at hl 0 rfl) ?_
  refine lv_bipush (v := (6 : Int32)) S.1 S.2.1 dX3_init_13 (by decide) ?_
  refine fg_newZ S hK (hq _ z_1_129) (n := 6) (N := a + 2) (by decide) rfl h2 (hM _ (by omega)) kdI_lt hcl1 (by decide) hA (Nat.le_of_ble_eq_true rfl) (Nat.le_of_ble_eq_true rfl) hW hD1 dX3_init_15 (fun q2 H hW hD => ?_)
  have e2 : upA ad1 (a + 2) q2 a = ad a := (upA_k _ _ _ (by omega)).trans e1
  have f2 : upA ad1 (a + 2) q2 (a + 2) = q2 := upA_v _ _ _
  have g2 : ∀ k, k < a + 1 → upA ad1 (a + 2) q2 k = ad k := fun k hk => (upA_k _ _ _ (by omega)).trans (g1 k hk)
  generalize upA ad1 (a + 2) q2 = ad2 at hW hD e2 f2 g2
  refine fg_putF S hK (D_J hD) (D_A hD) hinit tyX3 tyX3_ok nmX3 iX3 rfl (a := a) (by omega) h0 1 (by decide) (hq _ z_1_137) (fun _ h9 => h9) rfl rfl (b := a + 2) e2 f2 rfl rfl rfl rfl hW dX3_init_17 (fun H locs hW => ?_)
  have hcl2 := upR_cl (a := a) (k := 1) (b0 := a + 2) (N' := a + 3) hcl1 (by omega) (by omega)
  have hD2 := wsF_D (cf := cof cy ad2 kdI shC (upR (upR rf a 0 (a + 1)) a 1 (a + 2)) M) (D_J hD) (D_A hD)
  refine lv_aload_n S.1 S.2.1 dX3_init_20 rfl (lv_at hl 0 rfl) ?_
  refine lv_iconst (v := (0 : Int32)) S.1 S.2.1 dX3_init_21 (by decide) ?_
  refine fg_putI S hK (D_J hD) (D_A hD) tyX3 tyX3_ok nmX3 iX3 rfl (a := a) (by omega) h0 2 (by decide) (hq _ z_1_138) (fun _ h9 => h9) rfl e2 rfl rfl rfl rfl hW dX3_init_22 (fun H locs hW => ?_)
  have hDe := wsF_D (cf := cof cy ad2 kdI shC (upR (upR rf a 0 (a + 1)) a 1 (a + 2)) (wI M a 2 0)) (D_J hD) (D_A hD)
  exact W.vret S.1 S.2.1 hr (fun t ht _ => ⟨⟨ad2, rfl, g2, by subst ht; exact hW.1, hDe⟩, hW.2.F ht⟩) hW.2.2.2 dX3_init_25 hlocks
set_option maxHeartbeats 4000000 in
set_option maxRecDepth 100000 in
theorem kX5_tellG (l : Launch) {D : va_G} {cy : Nat → ClassId} {ad : Nat → Nat} (N : Nat) (rf : Nat → Nat → Option Nat) (hJ : Inj ad N) (a : Nat) (al0 : a < N) (as0 : shC a = (0, 5))  (M : Mm) (M' : Mm) (h : fX5_tellNothing a M = some M') : Met l yX5_tellNothing vX5_tellNothing ({ frames := 0, cells := 0, slots := 0, locals := 0 } : Room) (PcF [.ref (ad a)] D cy ad kdI shC rf N M) (QcV D cy ad kdI shC rf N M') 0 0 (AV ad N) := by
  refine Met.ofW (cc := cX5_tellNothing) (maxL := 1) (ret := none) (by decide) rfl ?_
  intro p e s m args below meth c s₁ B hml hv
  obtain ⟨rfl, hP, hK, hN⟩ := hv
  have hr := B.returns
  have hlocks := B.notSynchronized
  have S : CallFix p m c cX5_tellNothing 1 s ([.ref (ad a)] : List Value).toArray vX5_tellNothing RX5 := ⟨B.exec, B.bytes, hml, findClass_of_methodNamed B.named, atoms_spec (ws := vX5_tellNothing) B.pre⟩
  have hq : ∀ w ∈ GW, w.before ([.ref (ad a)] : List Value).toArray s = true := fun w h => S.2.2.2.2 w (List.mem_cons_of_mem _ h)
  have hA : ∀ k, k < N → AV ad N (ad k) := fun k hk => ⟨k, hk, rfl⟩
  have hW : WSt D cy ad kdI shC rf N (AV ad N) M s.heap s.heap [] := ⟨hP, va_S.rf⟩
  clear hP
  have iX5 : ∀ w ∈ wsX50, w ∈ vX5_tellNothing := fun w h => List.mem_cons_of_mem _ (inX5 w h)
  have hl := lv_entry ([.ref (ad a)]) (n := 1) (Nat.le_of_ble_eq_true rfl)
  rw [lg_entry_eq]
  generalize (lg_sl ([.ref (ad a)]) ++ List.replicate (1 - (lg_sl ([.ref (ad a)])).length) Slot.unset).toArray = ls at hl ⊢
  have hl : lv_has ls 1 [(0, .ref (ad a))] := hl
  rw [fX5_tellNothing] at h
  refine lv_aload_n S.1 S.2.1 dX5_tellNothing_0 rfl (lv_at hl 0 rfl) ?_
  refine lv_iconst (v := (0 : Int32)) S.1 S.2.1 dX5_tellNothing_1 (by decide) ?_
  refine fl_put S hK hJ hA tyX5 tyX5_ok nmX5 iX5 rfl al0 as0 3 (by decide) (hq _ q_66) (fun _ h9 => h9) rfl (ty := .int) rfl rfl rfl (wI M a 3 (0 : Int32)) (by decide) (fvs_setI _ _ _ _ _ _ _ rfl) (fun j _ hj => cof_wI_ne hj) hW dX5_tellNothing_2 (fun H locs hW => ?_)
  obtain ⟨M1, e2, h⟩ := lt_some h
  rw [e2] at hW
  clear e2
  refine lv_aload_n S.1 S.2.1 dX5_tellNothing_5 rfl (lv_at hl 0 rfl) ?_
  refine lv_iconst (v := (0 : Int32)) S.1 S.2.1 dX5_tellNothing_6 (by decide) ?_
  refine fl_put S hK hJ hA tyX5 tyX5_ok nmX5 iX5 rfl al0 as0 4 (by decide) (hq _ q_67) (fun _ h9 => h9) rfl (ty := .int) rfl rfl rfl (wI M1 a 4 (0 : Int32)) (by decide) (fvs_setI _ _ _ _ _ _ _ rfl) (fun j _ hj => cof_wI_ne hj) hW dX5_tellNothing_7 (fun H locs hW => ?_)
  obtain ⟨M3, e4, h⟩ := lt_some h
  rw [e4] at hW
  clear e4
  refine lv_aload_n S.1 S.2.1 dX5_tellNothing_10 rfl (lv_at hl 0 rfl) ?_
  refine lv_iconst (v := (3 : Int32)) S.1 S.2.1 dX5_tellNothing_11 (by decide) ?_
  refine fl_put S hK hJ hA tyX5 tyX5_ok nmX5 iX5 rfl al0 as0 5 (by decide) (hq _ q_68) (fun _ h9 => h9) rfl (ty := .int) rfl rfl rfl (wI M3 a 5 (3 : Int32)) (by decide) (fvs_setI _ _ _ _ _ _ _ rfl) (fun j _ hj => cof_wI_ne hj) hW dX5_tellNothing_12 (fun H locs hW => ?_)
  obtain ⟨M5, e6, h⟩ := lt_some h
  rw [e6] at hW
  clear e6
  refine lv_aload_n S.1 S.2.1 dX5_tellNothing_15 rfl (lv_at hl 0 rfl) ?_
  refine lv_iconst (v := (0 : Int32)) S.1 S.2.1 dX5_tellNothing_16 (by decide) ?_
  refine fl_put S hK hJ hA tyX5 tyX5_ok nmX5 iX5 rfl al0 as0 6 (by decide) (hq _ q_69) (fun _ h9 => h9) rfl (ty := .int) rfl rfl rfl (wI M5 a 6 (0 : Int32)) (by decide) (fvs_setI _ _ _ _ _ _ _ rfl) (fun j _ hj => cof_wI_ne hj) hW dX5_tellNothing_17 (fun H locs hW => ?_)
  obtain ⟨M7, e8, h⟩ := lt_some h
  rw [e8] at hW
  clear e8
  refine lv_aload_n S.1 S.2.1 dX5_tellNothing_20 rfl (lv_at hl 0 rfl) ?_
  refine lv_bipush (v := (70 : Int32)) S.1 S.2.1 dX5_tellNothing_21 (by decide) ?_
  refine fl_put S hK hJ hA tyX5 tyX5_ok nmX5 iX5 rfl al0 as0 7 (by decide) (hq _ q_70) (fun _ h9 => h9) rfl (ty := .int) rfl rfl rfl (wI M7 a 7 (70 : Int32)) (by decide) (fvs_setI _ _ _ _ _ _ _ rfl) (fun j _ hj => cof_wI_ne hj) hW dX5_tellNothing_23 (fun H locs hW => ?_)
  obtain ⟨M9, e10, h⟩ := lt_some h
  rw [e10] at hW
  clear e10
  obtain rfl := s1 h
  exact fl_vret S.1 S.2.1 hr hlocks hW dX5_tellNothing_26
set_option maxHeartbeats 4000000 in
set_option maxRecDepth 100000 in
theorem kX5_init (l : Launch) {D : va_G} {cy : Nat → ClassId} {ad : Nat → Nat} (a : Nat) (h0 : shC a = (0, 5)) (h1 : shC (a + 1) = (1, 6)) (h2 : shC (a + 2) = (1, 5)) (h3 : shC (a + 3) = (1, 5)) (rf : Nat → Nat → Option Nat) (M : Mm) (hJ : Inj ad (a + 1)) (hcl : ∀ x y b, rf x y = some b → b < a + 1) (hM : ∀ x, a < x → ∀ j, M.1 x j = 0) (sz : Nat) : Met l yX5_init vX5_init ({ frames := 1, cells := 3, slots := 16, locals := 64 } : Room) (PcG [.ref (ad a)] D cy ad shC rf (a + 1) M sz) (QvG D cy ad shC (upR (upR (upR rf a 0 (a + 1)) a 1 (a + 2)) a 2 (a + 3)) (a + 1) (a + 4) (wI (wI (wI (wI (wI M a 3 0) a 4 0) a 5 3) a 6 0) a 7 70) sz) 3 16 (AG ad (a + 1) sz) := by
  refine Met.ofW (cc := cX5_init) (maxL := 1) (ret := none) (by decide) rfl ?_
  intro p e s m args below meth c s₁ B hml hv
  obtain ⟨rfl, hsz, hP, hK, hN⟩ := hv
  subst hsz
  have hr := B.returns
  have hlocks := B.notSynchronized
  have hinit : meth.name = "<init>" := (name_of_methodNamed B.named B.method).1
  have S : CallFix p m c cX5_init 1 s ([.ref (ad a)] : List Value).toArray vX5_init RX5 := ⟨B.exec, B.bytes, hml, findClass_of_methodNamed B.named, atoms_spec (ws := vX5_init) B.pre⟩
  have hq : ∀ w ∈ GW, w.before ([.ref (ad a)] : List Value).toArray s = true := fun w h => S.2.2.2.2 w (List.mem_cons_of_mem _ h)
  have hA : ∀ q, s.heap.size ≤ q → AG ad (a + 1) s.heap.size q := fun q h => Or.inr h
  have hA0 : ∀ k, k < a + 1 → AG ad (a + 1) s.heap.size (ad k) := fun k hk => Or.inl ⟨k, hk, rfl⟩
  have hD : va_D (AG ad (a + 1) s.heap.size) (wsF ad (cof cy ad kdI shC rf M) (a + 1)) := wsF_D hJ hA0
  have hW : WSt D cy ad kdI shC rf (a + 1) (AG ad (a + 1) s.heap.size) M s.heap s.heap [] := ⟨hP, va_S.rf⟩
  clear hP
  have iX5 : ∀ w ∈ wsX50, w ∈ vX5_init := fun w h => List.mem_cons_of_mem _ (inX5 w h)
  have hl := lv_entry ([.ref (ad a)]) (n := 1) (Nat.le_of_ble_eq_true rfl)
  rw [lg_entry_eq]
  generalize (lg_sl ([.ref (ad a)]) ++ List.replicate (1 - (lg_sl ([.ref (ad a)])).length) Slot.unset).toArray = ls at hl ⊢
  have hl : lv_has ls 1 [(0, .ref (ad a))] := hl
  refine lv_aload_n S.1 S.2.1 dX5_init_0 rfl (lv_at hl 0 rfl) ?_
  refine W.objInit S.1 S.2.1 S.2.2.2.1 (hq _ z_1_152) (hq _ z_1_18) (hq _ z_1_19) rfl (by rw [hml]; exact hl.1) rfl dX5_init_1 (Nat.le_of_ble_eq_true rfl) (Nat.le_of_ble_eq_true rfl) ?_
  refine W.eq (g2 := F0 m 4 ls []) rfl ?_
  refine lv_aload_n S.1 S.2.1 dX5_init_4 rfl (lv_at hl 0 rfl) ?_
  refine lv_bipush (v := (6 : Int32)) S.1 S.2.1 dX5_init_5 (by decide) ?_
  refine fg_newI S hK (hq _ z_1_53) (n := 6) (N := a + 1) (by decide) rfl h1 (hM _ (by omega)) kdI_lt hcl (by decide) hA (Nat.le_of_ble_eq_true rfl) (Nat.le_of_ble_eq_true rfl) hW hD dX5_init_7 (fun q1 H hW hD => ?_)
  have e1 : upA ad (a + 1) q1 a = ad a := (upA_k _ _ _ (by omega))
  have f1 : upA ad (a + 1) q1 (a + 1) = q1 := upA_v _ _ _
  have g1 : ∀ k, k < a + 1 → upA ad (a + 1) q1 k = ad k := fun k hk => (upA_k _ _ _ (by omega))
  generalize upA ad (a + 1) q1 = ad1 at hW hD e1 f1 g1
  refine fg_putF S hK (D_J hD) (D_A hD) hinit tyX5 tyX5_ok nmX5 iX5 rfl (a := a) (by omega) h0 0 (by decide) (hq _ z_1_157) (fun _ h9 => h9) rfl rfl (b := a + 1) e1 f1 rfl rfl rfl rfl hW dX5_init_9 (fun H locs hW => ?_)
  have hcl1 := upR_cl (a := a) (k := 0) (b0 := a + 1) (N' := a + 2) hcl (by omega) (by omega)
  have hD1 := wsF_D (cf := cof cy ad1 kdI shC (upR rf a 0 (a + 1)) M) (D_J hD) (D_A hD)
  refine lv_aload_n S.1 S.2.1 dX5_init_12 rfl (lv_at hl 0 rfl) ?_
  refine lv_iconst (v := (5 : Int32)) S.1 S.2.1 dX5_init_13 (by decide) ?_
  refine fg_newI S hK (hq _ z_1_53) (n := 5) (N := a + 2) (by decide) rfl h2 (hM _ (by omega)) kdI_lt hcl1 (by decide) hA (Nat.le_of_ble_eq_true rfl) (Nat.le_of_ble_eq_true rfl) hW hD1 dX5_init_14 (fun q2 H hW hD => ?_)
  have e2 : upA ad1 (a + 2) q2 a = ad a := (upA_k _ _ _ (by omega)).trans e1
  have f2 : upA ad1 (a + 2) q2 (a + 2) = q2 := upA_v _ _ _
  have g2 : ∀ k, k < a + 1 → upA ad1 (a + 2) q2 k = ad k := fun k hk => (upA_k _ _ _ (by omega)).trans (g1 k hk)
  generalize upA ad1 (a + 2) q2 = ad2 at hW hD e2 f2 g2
  refine fg_putF S hK (D_J hD) (D_A hD) hinit tyX5 tyX5_ok nmX5 iX5 rfl (a := a) (by omega) h0 1 (by decide) (hq _ z_1_160) (fun _ h9 => h9) rfl rfl (b := a + 2) e2 f2 rfl rfl rfl rfl hW dX5_init_16 (fun H locs hW => ?_)
  have hcl2 := upR_cl (a := a) (k := 1) (b0 := a + 2) (N' := a + 3) hcl1 (by omega) (by omega)
  have hD2 := wsF_D (cf := cof cy ad2 kdI shC (upR (upR rf a 0 (a + 1)) a 1 (a + 2)) M) (D_J hD) (D_A hD)
  refine lv_aload_n S.1 S.2.1 dX5_init_19 rfl (lv_at hl 0 rfl) ?_
  refine lv_iconst (v := (5 : Int32)) S.1 S.2.1 dX5_init_20 (by decide) ?_
  refine fg_newI S hK (hq _ z_1_53) (n := 5) (N := a + 3) (by decide) rfl h3 (hM _ (by omega)) kdI_lt hcl2 (by decide) hA (Nat.le_of_ble_eq_true rfl) (Nat.le_of_ble_eq_true rfl) hW hD2 dX5_init_21 (fun q3 H hW hD => ?_)
  have e3 : upA ad2 (a + 3) q3 a = ad a := (upA_k _ _ _ (by omega)).trans e2
  have f3 : upA ad2 (a + 3) q3 (a + 3) = q3 := upA_v _ _ _
  have g3 : ∀ k, k < a + 1 → upA ad2 (a + 3) q3 k = ad k := fun k hk => (upA_k _ _ _ (by omega)).trans (g2 k hk)
  generalize upA ad2 (a + 3) q3 = ad3 at hW hD e3 f3 g3
  refine fg_putF S hK (D_J hD) (D_A hD) hinit tyX5 tyX5_ok nmX5 iX5 rfl (a := a) (by omega) h0 2 (by decide) (hq _ z_1_163) (fun _ h9 => h9) rfl rfl (b := a + 3) e3 f3 rfl rfl rfl rfl hW dX5_init_23 (fun H locs hW => ?_)
  have hcl3 := upR_cl (a := a) (k := 2) (b0 := a + 3) (N' := a + 4) hcl2 (by omega) (by omega)
  have hD3 := wsF_D (cf := cof cy ad3 kdI shC (upR (upR (upR rf a 0 (a + 1)) a 1 (a + 2)) a 2 (a + 3)) M) (D_J hD) (D_A hD)
  refine lv_aload_n S.1 S.2.1 dX5_init_26 rfl (lv_at hl 0 rfl) ?_
  have hW0 := hW
  have hKq := kX5_tellG l (D := D) (cy := cy) (a + 4) (upR (upR (upR rf a 0 (a + 1)) a 1 (a + 2)) a 2 (a + 3)) (D_J hD) a (by omega) h0 M (wI (wI (wI (wI (wI M a 3 0) a 4 0) a 5 3) a 6 0) a 7 70) rfl
  rw [e3] at hKq
  refine va_callv (va_runV S hKq (cwV 0 S.2.2.2.2 (gV z_1_153 z_1_155 q_112 z_1_7 z_1_156) rfl rfl rfl (by decide +kernel) ⟨Nat.le_of_ble_eq_true rfl, Nat.le_of_ble_eq_true rfl⟩) ⟨PcF.blind, (by rw [← e3]; exact fl_recv hK hW rfl (by omega) h0), fl_pre hK hN hW⟩ rfl rfl hl.1 rfl (lv_room (Nat.le_of_ble_eq_true rfl)) dX5_init_27 ⟨Nat.le_of_ble_eq_true rfl, Nat.le_of_ble_eq_true rfl⟩) hW.2 (fun q _ h => fl_A (D_A hD) q h) (fl_A (D_A hD)) (fun u t H1 locs1 ht _ _ hB _ _ hS1 => ?_)
  subst ht
  have hDe := wsF_D (cf := cof cy ad3 kdI shC (upR (upR (upR rf a 0 (a + 1)) a 1 (a + 2)) a 2 (a + 3)) (wI (wI (wI (wI (wI M a 3 0) a 4 0) a 5 3) a 6 0) a 7 70)) (D_J hD) (D_A hD)
  exact W.vret S.1 S.2.1 hr (fun t2 ht _ => ⟨⟨ad3, rfl, g3, by rw [ht]; exact hB, hDe⟩, hS1.F ht⟩) hS1.2.2 dX5_init_30 hlocks
/-! ===== the reference's constructor ===== -/
theorem rfM_chain : ∀ y, (upR (upR (upR (upR (upR (upR (upR (upR (upR (upR (upR (upR (upR (upR (fun _ _ => none) 0 2 (0 + 1)) 0 10 (0 + 2)) 0 11 (0 + 3)) 0 12 (0 + 4)) 0 13 (0 + 5)) 0 14 (0 + 6)) 0 15 (0 + 7)) 0 16 (0 + 8)) 0 17 (0 + 9)) 0 19 (0 + 10)) 0 20 (0 + 11)) 0 22 (0 + 12)) 0 23 (0 + 13)) 0 24 (0 + 14)) 0 y = rfM 0 y := by
  intro y
  by_cases h : y < 25
  · revert h
    revert y
    decide
  · repeat rw [upR_o _ _ _ _ (Or.inr (by omega))]
    unfold rfM rfM0
    rw [if_pos rfl]
    simp [List.getD, List.getElem?_eq_none (show ([none, none, some 1, none, none, none, none, none, none, none, some 2, some 3, some 4, some 5, some 6, some 7, some 8, some 9, none, some 10, some 11, none, some 12, some 13, some 14] : List (Option Nat)).length ≤ y from by simpa using h)]
set_option maxHeartbeats 4000000 in
set_option maxRecDepth 100000 in
theorem kX7_init (l : Launch) {D : va_G} {cy : Nat → ClassId} {ad : Nat → Nat} (a : Nat) (h0 : shM a = (0, 7)) (h1 : shM (a + 1) = (1, 120)) (h2 : shM (a + 2) = (1, 8)) (h3 : shM (a + 3) = (1, 6)) (h4 : shM (a + 4) = (1, 10)) (h5 : shM (a + 5) = (1, 10)) (h6 : shM (a + 6) = (1, 21)) (h7 : shM (a + 7) = (1, 42)) (h8 : shM (a + 8) = (2, 2)) (h9 : shM (a + 9) = (1, 210)) (h10 : shM (a + 10) = (1, 6)) (h11 : shM (a + 11) = (1, 6)) (h12 : shM (a + 12) = (1, 6)) (h13 : shM (a + 13) = (1, 6)) (h14 : shM (a + 14) = (1, 6)) (rf : Nat → Nat → Option Nat) (M : Mm) (hJ : Inj ad (a + 1)) (hcl : ∀ x y b, rf x y = some b → b < a + 1) (hM : ∀ x, a < x → ∀ j, M.1 x j = 0) (sz : Nat) (ha0 : a = 0) (hrf : rf = fun _ _ => none) (M1 M2 : Mm) (hb1 : fX7_begins M = some M1) (hb2 : fX7_settles M1 = some M2) : Met l yX7_init vX7_init ({ frames := 1, cells := 14, slots := 459, locals := 64 } : Room) (PcG [.ref (ad a)] D cy ad shM rf (a + 1) M sz) (va_Qv (fun ad' : Nat → Nat => ∀ k, k < a + 1 → ad' k = ad k) (fun ad' t => va_P D vwCl (wsF ad' (cof cy ad' kdV shM rfM M2) 15) t.heap ∧ va_D (AG ad (a + 1) sz) (wsF ad' (cof cy ad' kdV shM rfM M2) 15)) (AG ad (a + 1) sz)) 14 459 (AG ad (a + 1) sz) := by
  refine Met.ofW (cc := cX7_init) (maxL := 1) (ret := none) (by decide) rfl ?_
  intro p e s m args below meth c s₁ B hml hv
  obtain ⟨rfl, hsz, hP, hK, hN⟩ := hv
  subst hsz
  have hr := B.returns
  have hlocks := B.notSynchronized
  have hinit : meth.name = "<init>" := (name_of_methodNamed B.named B.method).1
  have S : CallFix p m c cX7_init 1 s ([.ref (ad a)] : List Value).toArray vX7_init RX7 := ⟨B.exec, B.bytes, hml, findClass_of_methodNamed B.named, atoms_spec (ws := vX7_init) B.pre⟩
  have hq : ∀ w ∈ GW, w.before ([.ref (ad a)] : List Value).toArray s = true := fun w h => S.2.2.2.2 w (List.mem_cons_of_mem _ h)
  have hA : ∀ q, s.heap.size ≤ q → AG ad (a + 1) s.heap.size q := fun q h => Or.inr h
  have hA0 : ∀ k, k < a + 1 → AG ad (a + 1) s.heap.size (ad k) := fun k hk => Or.inl ⟨k, hk, rfl⟩
  have hD : va_D (AG ad (a + 1) s.heap.size) (wsF ad (cof cy ad kdI shM rf M) (a + 1)) := wsF_D hJ hA0
  have hW : WSt D cy ad kdI shM rf (a + 1) (AG ad (a + 1) s.heap.size) M s.heap s.heap [] := ⟨hP, va_S.rf⟩
  clear hP
  have iX7 : ∀ w ∈ wsX70, w ∈ vX7_init := fun w h => List.mem_cons_of_mem _ (inX7 w h)
  have hl := lv_entry ([.ref (ad a)]) (n := 1) (Nat.le_of_ble_eq_true rfl)
  rw [lg_entry_eq]
  generalize (lg_sl ([.ref (ad a)]) ++ List.replicate (1 - (lg_sl ([.ref (ad a)])).length) Slot.unset).toArray = ls at hl ⊢
  have hl : lv_has ls 1 [(0, .ref (ad a))] := hl
  refine lv_aload_n S.1 S.2.1 dX7_init_0 rfl (lv_at hl 0 rfl) ?_
  refine W.objInit S.1 S.2.1 S.2.2.2.1 (hq _ z_3_122) (hq _ z_1_18) (hq _ z_1_19) rfl (by rw [hml]; exact hl.1) rfl dX7_init_1 (Nat.le_of_ble_eq_true rfl) (Nat.le_of_ble_eq_true rfl) ?_
  refine W.eq (g2 := F0 m 4 ls []) rfl ?_
  refine lv_aload_n S.1 S.2.1 dX7_init_4 rfl (lv_at hl 0 rfl) ?_
  refine lv_bipush (v := (120 : Int32)) S.1 S.2.1 dX7_init_5 (by decide) ?_
  refine fg_newI S hK (hq _ z_1_53) (n := 120) (N := a + 1) (by decide) rfl h1 (hM _ (by omega)) kdI_lt hcl (by decide) hA (Nat.le_of_ble_eq_true rfl) (Nat.le_of_ble_eq_true rfl) hW hD dX7_init_7 (fun q1 H hW hD => ?_)
  have e1 : upA ad (a + 1) q1 a = ad a := (upA_k _ _ _ (by omega))
  have f1 : upA ad (a + 1) q1 (a + 1) = q1 := upA_v _ _ _
  have g1 : ∀ k, k < a + 1 → upA ad (a + 1) q1 k = ad k := fun k hk => (upA_k _ _ _ (by omega))
  generalize upA ad (a + 1) q1 = ad1 at hW hD e1 f1 g1
  refine fg_putF S hK (D_J hD) (D_A hD) hinit tyX7 tyX7_ok nmX7 iX7 rfl (a := a) (by omega) h0 2 (by decide) (hq _ z_3_133) (fun _ h9 => h9) rfl rfl (b := a + 1) e1 f1 rfl rfl rfl rfl hW dX7_init_9 (fun H locs hW => ?_)
  have hcl1 := upR_cl (a := a) (k := 2) (b0 := a + 1) (N' := a + 2) hcl (by omega) (by omega)
  have hD1 := wsF_D (cf := cof cy ad1 kdI shM (upR rf a 2 (a + 1)) M) (D_J hD) (D_A hD)
  refine lv_aload_n S.1 S.2.1 dX7_init_12 rfl (lv_at hl 0 rfl) ?_
  refine lv_bipush (v := (8 : Int32)) S.1 S.2.1 dX7_init_13 (by decide) ?_
  refine fg_newI S hK (hq _ z_1_53) (n := 8) (N := a + 2) (by decide) rfl h2 (hM _ (by omega)) kdI_lt hcl1 (by decide) hA (Nat.le_of_ble_eq_true rfl) (Nat.le_of_ble_eq_true rfl) hW hD1 dX7_init_15 (fun q2 H hW hD => ?_)
  have e2 : upA ad1 (a + 2) q2 a = ad a := (upA_k _ _ _ (by omega)).trans e1
  have f2 : upA ad1 (a + 2) q2 (a + 2) = q2 := upA_v _ _ _
  have g2 : ∀ k, k < a + 1 → upA ad1 (a + 2) q2 k = ad k := fun k hk => (upA_k _ _ _ (by omega)).trans (g1 k hk)
  generalize upA ad1 (a + 2) q2 = ad2 at hW hD e2 f2 g2
  refine fg_putF S hK (D_J hD) (D_A hD) hinit tyX7 tyX7_ok nmX7 iX7 rfl (a := a) (by omega) h0 10 (by decide) (hq _ z_3_141) (fun _ h9 => h9) rfl rfl (b := a + 2) e2 f2 rfl rfl rfl rfl hW dX7_init_17 (fun H locs hW => ?_)
  have hcl2 := upR_cl (a := a) (k := 10) (b0 := a + 2) (N' := a + 3) hcl1 (by omega) (by omega)
  have hD2 := wsF_D (cf := cof cy ad2 kdI shM (upR (upR rf a 2 (a + 1)) a 10 (a + 2)) M) (D_J hD) (D_A hD)
  refine lv_aload_n S.1 S.2.1 dX7_init_20 rfl (lv_at hl 0 rfl) ?_
  refine lv_bipush (v := (6 : Int32)) S.1 S.2.1 dX7_init_21 (by decide) ?_
  refine fg_newI S hK (hq _ z_1_53) (n := 6) (N := a + 3) (by decide) rfl h3 (hM _ (by omega)) kdI_lt hcl2 (by decide) hA (Nat.le_of_ble_eq_true rfl) (Nat.le_of_ble_eq_true rfl) hW hD2 dX7_init_23 (fun q3 H hW hD => ?_)
  have e3 : upA ad2 (a + 3) q3 a = ad a := (upA_k _ _ _ (by omega)).trans e2
  have f3 : upA ad2 (a + 3) q3 (a + 3) = q3 := upA_v _ _ _
  have g3 : ∀ k, k < a + 1 → upA ad2 (a + 3) q3 k = ad k := fun k hk => (upA_k _ _ _ (by omega)).trans (g2 k hk)
  generalize upA ad2 (a + 3) q3 = ad3 at hW hD e3 f3 g3
  refine fg_putF S hK (D_J hD) (D_A hD) hinit tyX7 tyX7_ok nmX7 iX7 rfl (a := a) (by omega) h0 11 (by decide) (hq _ z_3_142) (fun _ h9 => h9) rfl rfl (b := a + 3) e3 f3 rfl rfl rfl rfl hW dX7_init_25 (fun H locs hW => ?_)
  have hcl3 := upR_cl (a := a) (k := 11) (b0 := a + 3) (N' := a + 4) hcl2 (by omega) (by omega)
  have hD3 := wsF_D (cf := cof cy ad3 kdI shM (upR (upR (upR rf a 2 (a + 1)) a 10 (a + 2)) a 11 (a + 3)) M) (D_J hD) (D_A hD)
  refine lv_aload_n S.1 S.2.1 dX7_init_28 rfl (lv_at hl 0 rfl) ?_
  refine lv_bipush (v := (10 : Int32)) S.1 S.2.1 dX7_init_29 (by decide) ?_
  refine fg_newI S hK (hq _ z_1_53) (n := 10) (N := a + 4) (by decide) rfl h4 (hM _ (by omega)) kdI_lt hcl3 (by decide) hA (Nat.le_of_ble_eq_true rfl) (Nat.le_of_ble_eq_true rfl) hW hD3 dX7_init_31 (fun q4 H hW hD => ?_)
  have e4 : upA ad3 (a + 4) q4 a = ad a := (upA_k _ _ _ (by omega)).trans e3
  have f4 : upA ad3 (a + 4) q4 (a + 4) = q4 := upA_v _ _ _
  have g4 : ∀ k, k < a + 1 → upA ad3 (a + 4) q4 k = ad k := fun k hk => (upA_k _ _ _ (by omega)).trans (g3 k hk)
  generalize upA ad3 (a + 4) q4 = ad4 at hW hD e4 f4 g4
  refine fg_putF S hK (D_J hD) (D_A hD) hinit tyX7 tyX7_ok nmX7 iX7 rfl (a := a) (by omega) h0 12 (by decide) (hq _ z_3_143) (fun _ h9 => h9) rfl rfl (b := a + 4) e4 f4 rfl rfl rfl rfl hW dX7_init_33 (fun H locs hW => ?_)
  have hcl4 := upR_cl (a := a) (k := 12) (b0 := a + 4) (N' := a + 5) hcl3 (by omega) (by omega)
  have hD4 := wsF_D (cf := cof cy ad4 kdI shM (upR (upR (upR (upR rf a 2 (a + 1)) a 10 (a + 2)) a 11 (a + 3)) a 12 (a + 4)) M) (D_J hD) (D_A hD)
  refine lv_aload_n S.1 S.2.1 dX7_init_36 rfl (lv_at hl 0 rfl) ?_
  refine lv_bipush (v := (10 : Int32)) S.1 S.2.1 dX7_init_37 (by decide) ?_
  refine fg_newI S hK (hq _ z_1_53) (n := 10) (N := a + 5) (by decide) rfl h5 (hM _ (by omega)) kdI_lt hcl4 (by decide) hA (Nat.le_of_ble_eq_true rfl) (Nat.le_of_ble_eq_true rfl) hW hD4 dX7_init_39 (fun q5 H hW hD => ?_)
  have e5 : upA ad4 (a + 5) q5 a = ad a := (upA_k _ _ _ (by omega)).trans e4
  have f5 : upA ad4 (a + 5) q5 (a + 5) = q5 := upA_v _ _ _
  have g5 : ∀ k, k < a + 1 → upA ad4 (a + 5) q5 k = ad k := fun k hk => (upA_k _ _ _ (by omega)).trans (g4 k hk)
  generalize upA ad4 (a + 5) q5 = ad5 at hW hD e5 f5 g5
  refine fg_putF S hK (D_J hD) (D_A hD) hinit tyX7 tyX7_ok nmX7 iX7 rfl (a := a) (by omega) h0 13 (by decide) (hq _ z_3_144) (fun _ h9 => h9) rfl rfl (b := a + 5) e5 f5 rfl rfl rfl rfl hW dX7_init_41 (fun H locs hW => ?_)
  have hcl5 := upR_cl (a := a) (k := 13) (b0 := a + 5) (N' := a + 6) hcl4 (by omega) (by omega)
  have hD5 := wsF_D (cf := cof cy ad5 kdI shM (upR (upR (upR (upR (upR rf a 2 (a + 1)) a 10 (a + 2)) a 11 (a + 3)) a 12 (a + 4)) a 13 (a + 5)) M) (D_J hD) (D_A hD)
  refine lv_aload_n S.1 S.2.1 dX7_init_44 rfl (lv_at hl 0 rfl) ?_
  refine lv_bipush (v := (21 : Int32)) S.1 S.2.1 dX7_init_45 (by decide) ?_
  refine fg_newI S hK (hq _ z_1_53) (n := 21) (N := a + 6) (by decide) rfl h6 (hM _ (by omega)) kdI_lt hcl5 (by decide) hA (Nat.le_of_ble_eq_true rfl) (Nat.le_of_ble_eq_true rfl) hW hD5 dX7_init_47 (fun q6 H hW hD => ?_)
  have e6 : upA ad5 (a + 6) q6 a = ad a := (upA_k _ _ _ (by omega)).trans e5
  have f6 : upA ad5 (a + 6) q6 (a + 6) = q6 := upA_v _ _ _
  have g6 : ∀ k, k < a + 1 → upA ad5 (a + 6) q6 k = ad k := fun k hk => (upA_k _ _ _ (by omega)).trans (g5 k hk)
  generalize upA ad5 (a + 6) q6 = ad6 at hW hD e6 f6 g6
  refine fg_putF S hK (D_J hD) (D_A hD) hinit tyX7 tyX7_ok nmX7 iX7 rfl (a := a) (by omega) h0 14 (by decide) (hq _ z_3_145) (fun _ h9 => h9) rfl rfl (b := a + 6) e6 f6 rfl rfl rfl rfl hW dX7_init_49 (fun H locs hW => ?_)
  have hcl6 := upR_cl (a := a) (k := 14) (b0 := a + 6) (N' := a + 7) hcl5 (by omega) (by omega)
  have hD6 := wsF_D (cf := cof cy ad6 kdI shM (upR (upR (upR (upR (upR (upR rf a 2 (a + 1)) a 10 (a + 2)) a 11 (a + 3)) a 12 (a + 4)) a 13 (a + 5)) a 14 (a + 6)) M) (D_J hD) (D_A hD)
  refine lv_aload_n S.1 S.2.1 dX7_init_52 rfl (lv_at hl 0 rfl) ?_
  refine lv_bipush (v := (42 : Int32)) S.1 S.2.1 dX7_init_53 (by decide) ?_
  refine fg_newI S hK (hq _ z_1_53) (n := 42) (N := a + 7) (by decide) rfl h7 (hM _ (by omega)) kdI_lt hcl6 (by decide) hA (Nat.le_of_ble_eq_true rfl) (Nat.le_of_ble_eq_true rfl) hW hD6 dX7_init_55 (fun q7 H hW hD => ?_)
  have e7 : upA ad6 (a + 7) q7 a = ad a := (upA_k _ _ _ (by omega)).trans e6
  have f7 : upA ad6 (a + 7) q7 (a + 7) = q7 := upA_v _ _ _
  have g7 : ∀ k, k < a + 1 → upA ad6 (a + 7) q7 k = ad k := fun k hk => (upA_k _ _ _ (by omega)).trans (g6 k hk)
  generalize upA ad6 (a + 7) q7 = ad7 at hW hD e7 f7 g7
  refine fg_putF S hK (D_J hD) (D_A hD) hinit tyX7 tyX7_ok nmX7 iX7 rfl (a := a) (by omega) h0 15 (by decide) (hq _ z_3_146) (fun _ h9 => h9) rfl rfl (b := a + 7) e7 f7 rfl rfl rfl rfl hW dX7_init_57 (fun H locs hW => ?_)
  have hcl7 := upR_cl (a := a) (k := 15) (b0 := a + 7) (N' := a + 8) hcl6 (by omega) (by omega)
  have hD7 := wsF_D (cf := cof cy ad7 kdI shM (upR (upR (upR (upR (upR (upR (upR rf a 2 (a + 1)) a 10 (a + 2)) a 11 (a + 3)) a 12 (a + 4)) a 13 (a + 5)) a 14 (a + 6)) a 15 (a + 7)) M) (D_J hD) (D_A hD)
  refine lv_aload_n S.1 S.2.1 dX7_init_60 rfl (lv_at hl 0 rfl) ?_
  refine lv_iconst (v := (2 : Int32)) S.1 S.2.1 dX7_init_61 (by decide) ?_
  refine fg_newZ S hK (hq _ z_1_129) (n := 2) (N := a + 8) (by decide) rfl h8 (hM _ (by omega)) kdI_lt hcl7 (by decide) hA (Nat.le_of_ble_eq_true rfl) (Nat.le_of_ble_eq_true rfl) hW hD7 dX7_init_62 (fun q8 H hW hD => ?_)
  have e8 : upA ad7 (a + 8) q8 a = ad a := (upA_k _ _ _ (by omega)).trans e7
  have f8 : upA ad7 (a + 8) q8 (a + 8) = q8 := upA_v _ _ _
  have g8 : ∀ k, k < a + 1 → upA ad7 (a + 8) q8 k = ad k := fun k hk => (upA_k _ _ _ (by omega)).trans (g7 k hk)
  generalize upA ad7 (a + 8) q8 = ad8 at hW hD e8 f8 g8
  refine fg_putF S hK (D_J hD) (D_A hD) hinit tyX7 tyX7_ok nmX7 iX7 rfl (a := a) (by omega) h0 16 (by decide) (hq _ z_3_147) (fun _ h9 => h9) rfl rfl (b := a + 8) e8 f8 rfl rfl rfl rfl hW dX7_init_64 (fun H locs hW => ?_)
  have hcl8 := upR_cl (a := a) (k := 16) (b0 := a + 8) (N' := a + 9) hcl7 (by omega) (by omega)
  have hD8 := wsF_D (cf := cof cy ad8 kdI shM (upR (upR (upR (upR (upR (upR (upR (upR rf a 2 (a + 1)) a 10 (a + 2)) a 11 (a + 3)) a 12 (a + 4)) a 13 (a + 5)) a 14 (a + 6)) a 15 (a + 7)) a 16 (a + 8)) M) (D_J hD) (D_A hD)
  refine lv_aload_n S.1 S.2.1 dX7_init_67 rfl (lv_at hl 0 rfl) ?_
  refine lv_sipush (v := (210 : Int32)) S.1 S.2.1 dX7_init_68 (by decide) ?_
  refine fg_newI S hK (hq _ z_1_53) (n := 210) (N := a + 9) (by decide) rfl h9 (hM _ (by omega)) kdI_lt hcl8 (by decide) hA (Nat.le_of_ble_eq_true rfl) (Nat.le_of_ble_eq_true rfl) hW hD8 dX7_init_71 (fun q9 H hW hD => ?_)
  have e9 : upA ad8 (a + 9) q9 a = ad a := (upA_k _ _ _ (by omega)).trans e8
  have f9 : upA ad8 (a + 9) q9 (a + 9) = q9 := upA_v _ _ _
  have g9 : ∀ k, k < a + 1 → upA ad8 (a + 9) q9 k = ad k := fun k hk => (upA_k _ _ _ (by omega)).trans (g8 k hk)
  generalize upA ad8 (a + 9) q9 = ad9 at hW hD e9 f9 g9
  refine fg_putF S hK (D_J hD) (D_A hD) hinit tyX7 tyX7_ok nmX7 iX7 rfl (a := a) (by omega) h0 17 (by decide) (hq _ z_3_148) (fun _ h9 => h9) rfl rfl (b := a + 9) e9 f9 rfl rfl rfl rfl hW dX7_init_73 (fun H locs hW => ?_)
  have hcl9 := upR_cl (a := a) (k := 17) (b0 := a + 9) (N' := a + 10) hcl8 (by omega) (by omega)
  have hD9 := wsF_D (cf := cof cy ad9 kdI shM (upR (upR (upR (upR (upR (upR (upR (upR (upR rf a 2 (a + 1)) a 10 (a + 2)) a 11 (a + 3)) a 12 (a + 4)) a 13 (a + 5)) a 14 (a + 6)) a 15 (a + 7)) a 16 (a + 8)) a 17 (a + 9)) M) (D_J hD) (D_A hD)
  refine lv_aload_n S.1 S.2.1 dX7_init_76 rfl (lv_at hl 0 rfl) ?_
  refine lv_bipush (v := (6 : Int32)) S.1 S.2.1 dX7_init_77 (by decide) ?_
  refine fg_newI S hK (hq _ z_1_53) (n := 6) (N := a + 10) (by decide) rfl h10 (hM _ (by omega)) kdI_lt hcl9 (by decide) hA (Nat.le_of_ble_eq_true rfl) (Nat.le_of_ble_eq_true rfl) hW hD9 dX7_init_79 (fun q10 H hW hD => ?_)
  have e10 : upA ad9 (a + 10) q10 a = ad a := (upA_k _ _ _ (by omega)).trans e9
  have f10 : upA ad9 (a + 10) q10 (a + 10) = q10 := upA_v _ _ _
  have g10 : ∀ k, k < a + 1 → upA ad9 (a + 10) q10 k = ad k := fun k hk => (upA_k _ _ _ (by omega)).trans (g9 k hk)
  generalize upA ad9 (a + 10) q10 = ad10 at hW hD e10 f10 g10
  refine fg_putF S hK (D_J hD) (D_A hD) hinit tyX7 tyX7_ok nmX7 iX7 rfl (a := a) (by omega) h0 19 (by decide) (hq _ z_3_150) (fun _ h9 => h9) rfl rfl (b := a + 10) e10 f10 rfl rfl rfl rfl hW dX7_init_81 (fun H locs hW => ?_)
  have hcl10 := upR_cl (a := a) (k := 19) (b0 := a + 10) (N' := a + 11) hcl9 (by omega) (by omega)
  have hD10 := wsF_D (cf := cof cy ad10 kdI shM (upR (upR (upR (upR (upR (upR (upR (upR (upR (upR rf a 2 (a + 1)) a 10 (a + 2)) a 11 (a + 3)) a 12 (a + 4)) a 13 (a + 5)) a 14 (a + 6)) a 15 (a + 7)) a 16 (a + 8)) a 17 (a + 9)) a 19 (a + 10)) M) (D_J hD) (D_A hD)
  refine lv_aload_n S.1 S.2.1 dX7_init_84 rfl (lv_at hl 0 rfl) ?_
  refine lv_bipush (v := (6 : Int32)) S.1 S.2.1 dX7_init_85 (by decide) ?_
  refine fg_newI S hK (hq _ z_1_53) (n := 6) (N := a + 11) (by decide) rfl h11 (hM _ (by omega)) kdI_lt hcl10 (by decide) hA (Nat.le_of_ble_eq_true rfl) (Nat.le_of_ble_eq_true rfl) hW hD10 dX7_init_87 (fun q11 H hW hD => ?_)
  have e11 : upA ad10 (a + 11) q11 a = ad a := (upA_k _ _ _ (by omega)).trans e10
  have f11 : upA ad10 (a + 11) q11 (a + 11) = q11 := upA_v _ _ _
  have g11 : ∀ k, k < a + 1 → upA ad10 (a + 11) q11 k = ad k := fun k hk => (upA_k _ _ _ (by omega)).trans (g10 k hk)
  generalize upA ad10 (a + 11) q11 = ad11 at hW hD e11 f11 g11
  refine fg_putF S hK (D_J hD) (D_A hD) hinit tyX7 tyX7_ok nmX7 iX7 rfl (a := a) (by omega) h0 20 (by decide) (hq _ z_3_151) (fun _ h9 => h9) rfl rfl (b := a + 11) e11 f11 rfl rfl rfl rfl hW dX7_init_89 (fun H locs hW => ?_)
  have hcl11 := upR_cl (a := a) (k := 20) (b0 := a + 11) (N' := a + 12) hcl10 (by omega) (by omega)
  have hD11 := wsF_D (cf := cof cy ad11 kdI shM (upR (upR (upR (upR (upR (upR (upR (upR (upR (upR (upR rf a 2 (a + 1)) a 10 (a + 2)) a 11 (a + 3)) a 12 (a + 4)) a 13 (a + 5)) a 14 (a + 6)) a 15 (a + 7)) a 16 (a + 8)) a 17 (a + 9)) a 19 (a + 10)) a 20 (a + 11)) M) (D_J hD) (D_A hD)
  refine lv_aload_n S.1 S.2.1 dX7_init_92 rfl (lv_at hl 0 rfl) ?_
  refine lv_bipush (v := (6 : Int32)) S.1 S.2.1 dX7_init_93 (by decide) ?_
  refine fg_newI S hK (hq _ z_1_53) (n := 6) (N := a + 12) (by decide) rfl h12 (hM _ (by omega)) kdI_lt hcl11 (by decide) hA (Nat.le_of_ble_eq_true rfl) (Nat.le_of_ble_eq_true rfl) hW hD11 dX7_init_95 (fun q12 H hW hD => ?_)
  have e12 : upA ad11 (a + 12) q12 a = ad a := (upA_k _ _ _ (by omega)).trans e11
  have f12 : upA ad11 (a + 12) q12 (a + 12) = q12 := upA_v _ _ _
  have g12 : ∀ k, k < a + 1 → upA ad11 (a + 12) q12 k = ad k := fun k hk => (upA_k _ _ _ (by omega)).trans (g11 k hk)
  generalize upA ad11 (a + 12) q12 = ad12 at hW hD e12 f12 g12
  refine fg_putF S hK (D_J hD) (D_A hD) hinit tyX7 tyX7_ok nmX7 iX7 rfl (a := a) (by omega) h0 22 (by decide) (hq _ z_3_153) (fun _ h9 => h9) rfl rfl (b := a + 12) e12 f12 rfl rfl rfl rfl hW dX7_init_97 (fun H locs hW => ?_)
  have hcl12 := upR_cl (a := a) (k := 22) (b0 := a + 12) (N' := a + 13) hcl11 (by omega) (by omega)
  have hD12 := wsF_D (cf := cof cy ad12 kdI shM (upR (upR (upR (upR (upR (upR (upR (upR (upR (upR (upR (upR rf a 2 (a + 1)) a 10 (a + 2)) a 11 (a + 3)) a 12 (a + 4)) a 13 (a + 5)) a 14 (a + 6)) a 15 (a + 7)) a 16 (a + 8)) a 17 (a + 9)) a 19 (a + 10)) a 20 (a + 11)) a 22 (a + 12)) M) (D_J hD) (D_A hD)
  refine lv_aload_n S.1 S.2.1 dX7_init_100 rfl (lv_at hl 0 rfl) ?_
  refine lv_bipush (v := (6 : Int32)) S.1 S.2.1 dX7_init_101 (by decide) ?_
  refine fg_newI S hK (hq _ z_1_53) (n := 6) (N := a + 13) (by decide) rfl h13 (hM _ (by omega)) kdI_lt hcl12 (by decide) hA (Nat.le_of_ble_eq_true rfl) (Nat.le_of_ble_eq_true rfl) hW hD12 dX7_init_103 (fun q13 H hW hD => ?_)
  have e13 : upA ad12 (a + 13) q13 a = ad a := (upA_k _ _ _ (by omega)).trans e12
  have f13 : upA ad12 (a + 13) q13 (a + 13) = q13 := upA_v _ _ _
  have g13 : ∀ k, k < a + 1 → upA ad12 (a + 13) q13 k = ad k := fun k hk => (upA_k _ _ _ (by omega)).trans (g12 k hk)
  generalize upA ad12 (a + 13) q13 = ad13 at hW hD e13 f13 g13
  refine fg_putF S hK (D_J hD) (D_A hD) hinit tyX7 tyX7_ok nmX7 iX7 rfl (a := a) (by omega) h0 23 (by decide) (hq _ z_3_154) (fun _ h9 => h9) rfl rfl (b := a + 13) e13 f13 rfl rfl rfl rfl hW dX7_init_105 (fun H locs hW => ?_)
  have hcl13 := upR_cl (a := a) (k := 23) (b0 := a + 13) (N' := a + 14) hcl12 (by omega) (by omega)
  have hD13 := wsF_D (cf := cof cy ad13 kdI shM (upR (upR (upR (upR (upR (upR (upR (upR (upR (upR (upR (upR (upR rf a 2 (a + 1)) a 10 (a + 2)) a 11 (a + 3)) a 12 (a + 4)) a 13 (a + 5)) a 14 (a + 6)) a 15 (a + 7)) a 16 (a + 8)) a 17 (a + 9)) a 19 (a + 10)) a 20 (a + 11)) a 22 (a + 12)) a 23 (a + 13)) M) (D_J hD) (D_A hD)
  refine lv_aload_n S.1 S.2.1 dX7_init_108 rfl (lv_at hl 0 rfl) ?_
  refine lv_bipush (v := (6 : Int32)) S.1 S.2.1 dX7_init_109 (by decide) ?_
  refine fg_newI S hK (hq _ z_1_53) (n := 6) (N := a + 14) (by decide) rfl h14 (hM _ (by omega)) kdI_lt hcl13 (by decide) hA (Nat.le_of_ble_eq_true rfl) (Nat.le_of_ble_eq_true rfl) hW hD13 dX7_init_111 (fun q14 H hW hD => ?_)
  have e14 : upA ad13 (a + 14) q14 a = ad a := (upA_k _ _ _ (by omega)).trans e13
  have f14 : upA ad13 (a + 14) q14 (a + 14) = q14 := upA_v _ _ _
  have g14 : ∀ k, k < a + 1 → upA ad13 (a + 14) q14 k = ad k := fun k hk => (upA_k _ _ _ (by omega)).trans (g13 k hk)
  generalize upA ad13 (a + 14) q14 = ad14 at hW hD e14 f14 g14
  refine fg_putF S hK (D_J hD) (D_A hD) hinit tyX7 tyX7_ok nmX7 iX7 rfl (a := a) (by omega) h0 24 (by decide) (hq _ z_3_155) (fun _ h9 => h9) rfl rfl (b := a + 14) e14 f14 rfl rfl rfl rfl hW dX7_init_113 (fun H locs hW => ?_)
  have hcl14 := upR_cl (a := a) (k := 24) (b0 := a + 14) (N' := a + 15) hcl13 (by omega) (by omega)
  have hD14 := wsF_D (cf := cof cy ad14 kdI shM (upR (upR (upR (upR (upR (upR (upR (upR (upR (upR (upR (upR (upR (upR rf a 2 (a + 1)) a 10 (a + 2)) a 11 (a + 3)) a 12 (a + 4)) a 13 (a + 5)) a 14 (a + 6)) a 15 (a + 7)) a 16 (a + 8)) a 17 (a + 9)) a 19 (a + 10)) a 20 (a + 11)) a 22 (a + 12)) a 23 (a + 13)) a 24 (a + 14)) M) (D_J hD) (D_A hD)
  subst ha0
  subst hrf
  have hr0 : ∀ y, (upR (upR (upR (upR (upR (upR (upR (upR (upR (upR (upR (upR (upR (upR (fun _ _ => none) 0 2 (0 + 1)) 0 10 (0 + 2)) 0 11 (0 + 3)) 0 12 (0 + 4)) 0 13 (0 + 5)) 0 14 (0 + 6)) 0 15 (0 + 7)) 0 16 (0 + 8)) 0 17 (0 + 9)) 0 19 (0 + 10)) 0 20 (0 + 11)) 0 22 (0 + 12)) 0 23 (0 + 13)) 0 24 (0 + 14)) 0 y = rfM 0 y := rfM_chain
  have hcv : ∀ k, k < 15 → cof cy ad14 kdI shM (upR (upR (upR (upR (upR (upR (upR (upR (upR (upR (upR (upR (upR (upR (fun _ _ => none) 0 2 (0 + 1)) 0 10 (0 + 2)) 0 11 (0 + 3)) 0 12 (0 + 4)) 0 13 (0 + 5)) 0 14 (0 + 6)) 0 15 (0 + 7)) 0 16 (0 + 8)) 0 17 (0 + 9)) 0 19 (0 + 10)) 0 20 (0 + 11)) 0 22 (0 + 12)) 0 23 (0 + 13)) 0 24 (0 + 14)) M k = cof cy ad14 kdV shM rfM M k := fun k hk => by
    by_cases e0 : k = 0
    · subst e0
      rw [cof_rf hr0]
      rfl
    · have : k = 1 ∨ k = 2 ∨ k = 3 ∨ k = 4 ∨ k = 5 ∨ k = 6 ∨ k = 7 ∨ k = 8 ∨ k = 9 ∨ k = 10 ∨ k = 11 ∨ k = 12 ∨ k = 13 ∨ k = 14 := by omega
      rcases this with rfl | rfl | rfl | rfl | rfl | rfl | rfl | rfl | rfl | rfl | rfl | rfl | rfl | rfl <;> rfl
  have hW : WSt D cy ad14 kdV shM rfM 15 (AG ad (0 + 1) s.heap.size) M s.heap H locs := ⟨by rw [← wsF_congr hcv]; exact hW.1, hW.2⟩
  refine lv_aload_n S.1 S.2.1 dX7_init_116 rfl (lv_at hl 0 rfl) ?_
  have hKq := kX7_begins l (D := D) (cy := cy) (D_J hD) M M1 hb1
  rw [show ad14 0 = ad 0 from e14] at hKq
  refine va_callv (va_runV S hKq (cwV 0 S.2.2.2.2 (gV z_3_123 z_3_125 q_334 z_1_8 z_3_126) rfl rfl rfl (by decide +kernel) ⟨Nat.le_of_ble_eq_true rfl, Nat.le_of_ble_eq_true rfl⟩) ⟨PcF.blind, (by rw [← show ad14 0 = ad 0 from e14]; exact fl_recv hK hW rfl (by omega) h0), fl_pre hK hN hW⟩ rfl rfl hl.1 rfl (lv_room (Nat.le_of_ble_eq_true rfl)) dX7_init_117 ⟨Nat.le_of_ble_eq_true rfl, Nat.le_of_ble_eq_true rfl⟩) hW.2 (fun q _ h => fl_A (D_A hD) q h) (fl_A (D_A hD)) (fun u t H locs ht _ _ hB _ _ hS1 => ?_)
  have hW : WSt D cy ad14 kdV shM rfM 15 (AG ad (0 + 1) s.heap.size) M1 s.heap H locs := ⟨by rw [← ht]; exact hB, hS1⟩
  refine lv_aload_n S.1 S.2.1 dX7_init_120 rfl (lv_at hl 0 rfl) ?_
  have hKq := kX7_settles l (D := D) (cy := cy) (D_J hD) M1 M2 hb2
  rw [show ad14 0 = ad 0 from e14] at hKq
  refine va_callv (va_runV S hKq (cwV 0 S.2.2.2.2 (gV z_3_127 z_3_129 q_346 z_1_8 z_3_130) rfl rfl rfl (by decide +kernel) ⟨Nat.le_of_ble_eq_true rfl, Nat.le_of_ble_eq_true rfl⟩) ⟨PcF.blind, (by rw [← show ad14 0 = ad 0 from e14]; exact fl_recv hK hW rfl (by omega) h0), fl_pre hK hN hW⟩ rfl rfl hl.1 rfl (lv_room (Nat.le_of_ble_eq_true rfl)) dX7_init_121 ⟨Nat.le_of_ble_eq_true rfl, Nat.le_of_ble_eq_true rfl⟩) hW.2 (fun q _ h => fl_A (D_A hD) q h) (fl_A (D_A hD)) (fun u t H locs ht _ _ hB _ _ hS1 => ?_)
  have hDe : va_D (AG ad (0 + 1) s.heap.size) (wsF ad14 (cof cy ad14 kdV shM rfM M2) 15) := wsF_D (D_J hD) (D_A hD)
  exact W.vret S.1 S.2.1 hr (fun t2 ht2 _ => ⟨⟨ad14, rfl, g14, by rw [ht2, ← ht]; exact hB, hDe⟩, hS1.F ht2⟩) hS1.2.2 dX7_init_124 hlocks
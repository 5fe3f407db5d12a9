/-! ===== RoomBorn's constructor ===== -/
set_option maxHeartbeats 4000000 in
set_option maxRecDepth 100000 in
theorem kX6_init (l : Launch) {D : va_G} {cy : Nat → ClassId} {ad : Nat → Nat} (hJ : Inj ad 1) (sz : Nat) (Mc : Mm) (hbg : fX1_begin 3 64 MC = some Mc) : Met l yX6_init vX6_init ({ frames := 3, cells := 79, slots := 1000, locals := 200 } : Room) (va_Pc [.ref (ad 0)] (fun U => U.heap.size = sz ∧ va_P D vwCl (wsF ad (cof cy ad kdI shC rf0 Z0) 1) U.heap ∧ va_K D vwCl (tysV cy) U ∧ Nst U ∧ va_AO RX1 U ∧ va_AOA .int U)) (va_Qv (fun ad' : Nat → Nat => ∀ k, k < 1 → ad' k = ad k) (fun ad' t => va_P D vwCl (wsF ad' (cof cy ad' kdV shC rfC Mc) 80) t.heap ∧ va_D (AG ad 1 sz) (wsF ad' (cof cy ad' kdV shC rfC Mc) 80)) (AG ad 1 sz)) 79 1000 (AG ad 1 sz) := by
  refine Met.ofW (cc := cX6_init) (maxL := 2) (ret := none) (by decide) rfl ?_
  intro p e s m args below meth c s₁ B hml hv
  obtain ⟨rfl, hsz, hP, hK, hN, hO, hO2⟩ := hv
  subst hsz
  have hr := B.returns
  have hlocks := B.notSynchronized
  have hinit : meth.name = "<init>" := (name_of_methodNamed B.named B.method).1
  have S : CallFix p m c cX6_init 2 s ([.ref (ad 0)] : List Value).toArray vX6_init RX6 := ⟨B.exec, B.bytes, hml, findClass_of_methodNamed B.named, atoms_spec (ws := vX6_init) B.pre⟩
  have hq : ∀ w ∈ GW, w.before ([.ref (ad 0)] : List Value).toArray s = true := fun w h => S.2.2.2.2 w (List.mem_cons_of_mem _ h)
  have hA : ∀ q, s.heap.size ≤ q → AG ad 1 s.heap.size q := fun q h => Or.inr h
  have hA0 : ∀ k, k < 1 → AG ad 1 s.heap.size (ad k) := fun k hk => Or.inl ⟨k, hk, rfl⟩
  have hD : va_D (AG ad 1 s.heap.size) (wsF ad (cof cy ad kdI shC rf0 Z0) 1) := wsF_D hJ hA0
  have hW : WSt D cy ad kdI shC rf0 1 (AG ad 1 s.heap.size) Z0 s.heap s.heap [] := ⟨hP, va_S.rf⟩
  clear hP
  have iX6 : ∀ w ∈ wsX60, w ∈ vX6_init := fun w h => List.mem_cons_of_mem _ (inX6 w h)
  have iX4 : ∀ w ∈ wsX40, w ∈ vX6_init := fun w h => List.mem_cons_of_mem _ (inX4 w h)
  have iX0 : ∀ w ∈ wsX00, w ∈ vX6_init := fun w h => List.mem_cons_of_mem _ (inX0 w h)
  have iX1 : ∀ w ∈ wsX10, w ∈ vX6_init := fun w h => List.mem_cons_of_mem _ (inX1 w h)
  have iX2 : ∀ w ∈ wsX20, w ∈ vX6_init := fun w h => List.mem_cons_of_mem _ (inX2 w h)
  have iX3 : ∀ w ∈ wsX30, w ∈ vX6_init := fun w h => List.mem_cons_of_mem _ (inX3 w h)
  have iX5 : ∀ w ∈ wsX50, w ∈ vX6_init := fun w h => List.mem_cons_of_mem _ (inX5 w h)
  have hl := lv_entry ([.ref (ad 0)]) (n := 2) (Nat.le_of_ble_eq_true rfl)
  rw [lg_entry_eq]
  generalize (lg_sl ([.ref (ad 0)]) ++ List.replicate (2 - (lg_sl ([.ref (ad 0)])).length) Slot.unset).toArray = ls at hl ⊢
  have hl : lv_has ls 2 [(0, .ref (ad 0))] := hl
  refine lv_aload_n S.1 S.2.1 dX6_init_0 rfl (lv_at hl 0 rfl) ?_
  refine W.objInit S.1 S.2.1 S.2.2.2.1 (hq _ z_1_17) (hq _ z_1_18) (hq _ z_1_19) rfl (by rw [hml]; exact hl.1) rfl dX6_init_1 (Nat.le_of_ble_eq_true rfl) (Nat.le_of_ble_eq_true rfl) ?_
  refine W.eq (g2 := F0 m 4 ls []) rfl ?_
  refine lv_aload_n S.1 S.2.1 dX6_init_4 rfl (lv_at hl 0 rfl) ?_
  refine fg_mk S hK iX4 tyX4 tyX4_ok (hq _ z_1_20) (hq _ z_1_21) (hq _ z_1_2) rfl (show shC 1 = (0, 4) from rfl) (fun j hj => by
    have hf : fvs ad rf0 Z0 1 0 (kdI 4) = [.null, .int 0, .int 0, .int 0, .int 0, .int 0, .int 0, .int 0] := by
      show [fvl ad rf0 Z0 1 0 2, fvl ad rf0 Z0 1 1 0, fvl ad rf0 Z0 1 2 0, fvl ad rf0 Z0 1 3 0, fvl ad rf0 Z0 1 4 0, fvl ad rf0 Z0 1 5 0, fvl ad rf0 Z0 1 6 0, fvl ad rf0 Z0 1 7 0] = _
      simp [fvl, rf0, Z0, va_rf]
    rw [hf]
    have : j = 0 ∨ j = 1 ∨ j = 2 ∨ j = 3 ∨ j = 4 ∨ j = 5 ∨ j = 6 ∨ j = 7 := by omega
    rcases this with rfl | rfl | rfl | rfl | rfl | rfl | rfl | rfl <;> rfl) cl0 hA
    (hm := fun ad1 sz hJ1 => kX4_init l 1 rfl rfl rf0 Z0 hJ1 (fun x y b e => by cases e) (fun _ _ _ => rfl) sz)
    (hp := fun ad1 H hP => ⟨PcG.blind, fun U hU hWm => ⟨rfl, by rw [hU], by rw [hU]; exact hP, va_K.moved hWm.alike hK, Nst.warm hWm hN⟩⟩)
    (va_cnB 0 S.2.2.2.2 (gN z_1_24) rfl rfl rfl (hN.m 0 rfl) (hq _ z_1_2) (by decide +kernel) ⟨Nat.le_of_ble_eq_true rfl, Nat.le_of_ble_eq_true rfl⟩) rfl (hq _ z_1_23) (Nat.le_of_ble_eq_true rfl) (Nat.le_of_ble_eq_true rfl) hl.1 (Nat.le_of_ble_eq_true rfl) hW hD dX6_init_5 dX6_init_8 dX6_init_9 (fun ad1 H locs hag hW hD => ?_)
  have g1 : ∀ k, k < 1 → ad1 k = ad k := fun k hk => hag k (by omega)
  refine fg_putF S hK (D_J hD) (D_A hD) hinit tyX6 tyX6_ok nmX6 iX6 rfl (a := 0) (by omega) (show shC 0 = (0, 6) from rfl) 0 (by decide) (hq _ z_1_208) (fun _ h9 => h9) rfl rfl (b := 1) (g1 0 (by omega)) rfl rfl rfl rfl rfl hW dX6_init_12 (fun H locs hW => ?_)
  have hD := wsF_D (cf := cof cy ad1 kdI shC rfA1 MA1) (D_J hD) (D_A hD)
  have hW : WSt D cy ad1 kdI shC rfA1 3 (AG ad 1 s.heap.size) MA1 s.heap H locs := hW
  refine lv_aload_n S.1 S.2.1 dX6_init_15 rfl (lv_at hl 0 rfl) ?_
  refine fg_mkMoment S hK hN hq iX1 (gN z_1_58) (hq _ z_1_54) (hN.m 1 rfl) (show shC 3 = (0, 1) from rfl) rfl rfl rfl (nA1 3 (by omega)) (fun x hx => zA1 x (by omega)) clA1 hA (Nat.le_of_ble_eq_true rfl) (Nat.le_of_ble_eq_true rfl) (Nat.le_of_ble_eq_true rfl) (Nat.le_of_ble_eq_true rfl) hl.1 (Nat.le_of_ble_eq_true rfl) hW hD dX6_init_16 dX6_init_19 dX6_init_20 (fun ad2 H locs hag hW hD => ?_)
  have g2 : ∀ k, k < 1 → ad2 k = ad k := fun k hk => (hag k (by omega)).trans (g1 k hk)
  refine fg_putF S hK (D_J hD) (D_A hD) hinit tyX6 tyX6_ok nmX6 iX6 rfl (a := 0) (by omega) (show shC 0 = (0, 6) from rfl) 1 (by decide) (hq _ z_1_209) (fun _ h9 => h9) rfl rfl (b := 3) (g2 0 (by omega)) rfl rfl rfl rfl rfl hW dX6_init_23 (fun H locs hW => ?_)
  have hD := wsF_D (cf := cof cy ad2 kdI shC rfA2 MA1) (D_J hD) (D_A hD)
  have hW : WSt D cy ad2 kdI shC rfA2 7 (AG ad 1 s.heap.size) MA1 s.heap H locs := hW
  refine lv_aload_n S.1 S.2.1 dX6_init_26 rfl (lv_at hl 0 rfl) ?_
  refine fg_mk S hK iX2 tyX2 tyX2_ok (hq _ z_1_85) (hq _ z_1_86) (hq _ z_1_4) rfl (show shC 7 = (0, 2) from rfl) (fun j hj => by
    have hf : fvs ad2 rfA2 MA1 7 0 (kdI 2) = [.null, .int 0, .int 0] := by
      show [fvl ad2 rfA2 MA1 7 0 2, fvl ad2 rfA2 MA1 7 1 0, fvl ad2 rfA2 MA1 7 2 0] = _
      simp [fvl, nA2 7 (by omega), zA1 7 (by omega), va_rf]
    rw [hf]
    have : j = 0 ∨ j = 1 ∨ j = 2 := by omega
    rcases this with rfl | rfl | rfl <;> rfl) clA2 hA
    (hm := fun ad1 sz hJ1 => kX2_init l rfA2 MA1 hJ1 (fun x y b e => by have := clA2 x y b e; omega) (fun x hx => nA2 x (by omega)) (fun x hx => zA1 x (by omega)) sz)
    (hp := fun ad1 H hP => ⟨PcH.blind, fun U hU hWm => ⟨rfl, by rw [hU], by rw [hU]; exact hP, va_K.moved hWm.alike hK, Nst.warm hWm hN, va_AO.moved hWm.alike hO⟩⟩)
    (va_cnB 0 S.2.2.2.2 (gN z_1_89) rfl rfl rfl (hN.m 2 rfl) (hq _ z_1_4) (by decide +kernel) ⟨Nat.le_of_ble_eq_true rfl, Nat.le_of_ble_eq_true rfl⟩) rfl (hq _ z_1_88) (Nat.le_of_ble_eq_true rfl) (Nat.le_of_ble_eq_true rfl) hl.1 (Nat.le_of_ble_eq_true rfl) hW hD dX6_init_27 dX6_init_30 dX6_init_31 (fun ad3 H locs hag hW hD => ?_)
  have g3 : ∀ k, k < 1 → ad3 k = ad k := fun k hk => (hag k (by omega)).trans (g2 k hk)
  refine fg_putF S hK (D_J hD) (D_A hD) hinit tyX6 tyX6_ok nmX6 iX6 rfl (a := 0) (by omega) (show shC 0 = (0, 6) from rfl) 2 (by decide) (hq _ z_1_210) (fun _ h9 => h9) rfl rfl (b := 7) (g3 0 (by omega)) rfl rfl rfl rfl rfl hW dX6_init_34 (fun H locs hW => ?_)
  have hD := wsF_D (cf := cof cy ad3 kdI shC rfA3 MA3) (D_J hD) (D_A hD)
  have hW : WSt D cy ad3 kdI shC rfA3 49 (AG ad 1 s.heap.size) MA3 s.heap H locs := hW
  refine lv_aload_n S.1 S.2.1 dX6_init_37 rfl (lv_at hl 0 rfl) ?_
  refine lv_iconst (v := (2 : Int32)) S.1 S.2.1 dX6_init_38 (by decide) ?_
  refine fg_newR S hK hO (hq _ z_1_54) (n := 2) (by decide) rfl (show shC 49 = (3, 2) from rfl) (nA3 49 (by omega)) clA3 (by decide) hA (Nat.le_of_ble_eq_true rfl) (Nat.le_of_ble_eq_true rfl) hW hD dX6_init_39 (fun q H hW hD => ?_)
  have g4 : ∀ k, k < 1 → upA ad3 49 q k = ad k := fun k hk => (upA_k _ _ _ (by omega)).trans (g3 k hk)
  have f4 : upA ad3 49 q 49 = q := upA_v _ _ _
  generalize upA ad3 49 q = ad4 at hW hD g4 f4
  refine fg_putF S hK (D_J hD) (D_A hD) hinit tyX6 tyX6_ok nmX6 iX6 rfl (a := 0) (by omega) (show shC 0 = (0, 6) from rfl) 3 (by decide) (hq _ z_1_211) (fun _ h9 => h9) rfl rfl (b := 49) (g4 0 (by omega)) f4 rfl rfl rfl rfl hW dX6_init_42 (fun H locs hW => ?_)
  have hD := wsF_D (cf := cof cy ad4 kdI shC rfA4 MA3) (D_J hD) (D_A hD)
  have hW : WSt D cy ad4 kdI shC rfA4 50 (AG ad 1 s.heap.size) MA3 s.heap H locs := hW
  refine lv_aload_n S.1 S.2.1 dX6_init_45 rfl (lv_at hl 0 rfl) ?_
  refine lv_iconst (v := (2 : Int32)) S.1 S.2.1 dX6_init_46 (by decide) ?_
  refine fg_newZ S hK (hq _ z_1_129) (n := 2) (by decide) rfl (show shC 50 = (2, 2) from rfl) (zA3 50 (by omega)) kdI_lt clA4 (by decide) hA (Nat.le_of_ble_eq_true rfl) (Nat.le_of_ble_eq_true rfl) hW hD dX6_init_47 (fun q H hW hD => ?_)
  have g5 : ∀ k, k < 1 → upA ad4 50 q k = ad k := fun k hk => (upA_k _ _ _ (by omega)).trans (g4 k hk)
  have f5 : upA ad4 50 q 50 = q := upA_v _ _ _
  generalize upA ad4 50 q = ad5 at hW hD g5 f5
  refine fg_putF S hK (D_J hD) (D_A hD) hinit tyX6 tyX6_ok nmX6 iX6 rfl (a := 0) (by omega) (show shC 0 = (0, 6) from rfl) 4 (by decide) (hq _ z_1_212) (fun _ h9 => h9) rfl rfl (b := 50) (g5 0 (by omega)) f5 rfl rfl rfl rfl hW dX6_init_49 (fun H locs hW => ?_)
  have hD := wsF_D (cf := cof cy ad5 kdI shC rfA5 MA3) (D_J hD) (D_A hD)
  have hW : WSt D cy ad5 kdI shC rfA5 51 (AG ad 1 s.heap.size) MA3 s.heap H locs := hW
  refine lv_aload_n S.1 S.2.1 dX6_init_52 rfl (lv_at hl 0 rfl) ?_
  refine fg_mk S hK iX0 tyX0 tyX0_ok (hq _ z_1_105) (hq _ z_1_106) (hq _ z_1_5) rfl (show shC 51 = (0, 0) from rfl) (fun j hj => by
    have hf : fvs ad5 rfA5 MA3 51 0 (kdI 0) = [.null, .null, .int 0, .int 0] := by
      show [fvl ad5 rfA5 MA3 51 0 2, fvl ad5 rfA5 MA3 51 1 2, fvl ad5 rfA5 MA3 51 2 0, fvl ad5 rfA5 MA3 51 3 0] = _
      simp [fvl, nA5 51 (by omega), zA3 51 (by omega), va_rf]
    rw [hf]
    have : j = 0 ∨ j = 1 ∨ j = 2 ∨ j = 3 := by omega
    rcases this with rfl | rfl | rfl | rfl <;> rfl) clA5 hA
    (hm := fun ad1 sz hJ1 => kX0_init l rfA5 MA3 hJ1 (fun x y b e => by have := clA5 x y b e; omega) (fun x hx => zA3 x (by omega)) sz)
    (hp := fun ad1 H hP => ⟨PcI.blind, fun U hU hWm => ⟨rfl, by rw [hU], by rw [hU]; exact hP, va_K.moved hWm.alike hK, Nst.warm hWm hN, va_AOA.moved hWm.alike hO2⟩⟩)
    (va_cnB 0 S.2.2.2.2 (gN z_1_109) rfl rfl rfl (hN.m 4 rfl) (hq _ z_1_5) (by decide +kernel) ⟨Nat.le_of_ble_eq_true rfl, Nat.le_of_ble_eq_true rfl⟩) rfl (hq _ z_1_108) (Nat.le_of_ble_eq_true rfl) (Nat.le_of_ble_eq_true rfl) hl.1 (Nat.le_of_ble_eq_true rfl) hW hD dX6_init_53 dX6_init_56 dX6_init_57 (fun ad6 H locs hag hW hD => ?_)
  have g6 : ∀ k, k < 1 → ad6 k = ad k := fun k hk => (hag k (by omega)).trans (g5 k hk)
  refine fg_putF S hK (D_J hD) (D_A hD) hinit tyX6 tyX6_ok nmX6 iX6 rfl (a := 0) (by omega) (show shC 0 = (0, 6) from rfl) 5 (by decide) (hq _ z_1_213) (fun _ h9 => h9) rfl rfl (b := 51) (g6 0 (by omega)) rfl rfl rfl rfl rfl hW dX6_init_60 (fun H locs hW => ?_)
  have hD := wsF_D (cf := cof cy ad6 kdI shC rfA6 MA6) (D_J hD) (D_A hD)
  have hW : WSt D cy ad6 kdI shC rfA6 61 (AG ad 1 s.heap.size) MA6 s.heap H locs := hW
  refine lv_aload_n S.1 S.2.1 dX6_init_63 rfl (lv_at hl 0 rfl) ?_
  refine fg_mk S hK iX3 tyX3 tyX3_ok (hq _ z_1_130) (hq _ z_1_131) (hq _ z_1_6) rfl (show shC 61 = (0, 3) from rfl) (fun j hj => by
    have hf : fvs ad6 rfA6 MA6 61 0 (kdI 3) = [.null, .null, .int 0] := by
      show [fvl ad6 rfA6 MA6 61 0 2, fvl ad6 rfA6 MA6 61 1 2, fvl ad6 rfA6 MA6 61 2 0] = _
      simp [fvl, nA6 61 (by omega), zA6 61 (by omega), va_rf]
    rw [hf]
    have : j = 0 ∨ j = 1 ∨ j = 2 := by omega
    rcases this with rfl | rfl | rfl <;> rfl) clA6 hA
    (hm := fun ad1 sz hJ1 => kX3_init l 61 rfl rfl rfl rfA6 MA6 hJ1 (fun x y b e => by have := clA6 x y b e; omega) (fun x hx => zA6 x (by omega)) sz)
    (hp := fun ad1 H hP => ⟨PcG.blind, fun U hU hWm => ⟨rfl, by rw [hU], by rw [hU]; exact hP, va_K.moved hWm.alike hK, Nst.warm hWm hN⟩⟩)
    (va_cnB 0 S.2.2.2.2 (gN z_1_134) rfl rfl rfl (hN.m 5 rfl) (hq _ z_1_6) (by decide +kernel) ⟨Nat.le_of_ble_eq_true rfl, Nat.le_of_ble_eq_true rfl⟩) rfl (hq _ z_1_133) (Nat.le_of_ble_eq_true rfl) (Nat.le_of_ble_eq_true rfl) hl.1 (Nat.le_of_ble_eq_true rfl) hW hD dX6_init_64 dX6_init_67 dX6_init_68 (fun ad7 H locs hag hW hD => ?_)
  have g7 : ∀ k, k < 1 → ad7 k = ad k := fun k hk => (hag k (by omega)).trans (g6 k hk)
  refine fg_putF S hK (D_J hD) (D_A hD) hinit tyX6 tyX6_ok nmX6 iX6 rfl (a := 0) (by omega) (show shC 0 = (0, 6) from rfl) 6 (by decide) (hq _ z_1_214) (fun _ h9 => h9) rfl rfl (b := 61) (g7 0 (by omega)) rfl rfl rfl rfl rfl hW dX6_init_71 (fun H locs hW => ?_)
  have hD := wsF_D (cf := cof cy ad7 kdI shC rfA7 MA7) (D_J hD) (D_A hD)
  have hW : WSt D cy ad7 kdI shC rfA7 64 (AG ad 1 s.heap.size) MA7 s.heap H locs := hW
  refine lv_aload_n S.1 S.2.1 dX6_init_74 rfl (lv_at hl 0 rfl) ?_
  refine fg_mk S hK iX5 tyX5 tyX5_ok (hq _ z_1_147) (hq _ z_1_148) (hq _ z_1_7) rfl (show shC 64 = (0, 5) from rfl) (fun j hj => by
    have hf : fvs ad7 rfA7 MA7 64 0 (kdI 5) = [.null, .null, .null, .int 0, .int 0, .int 0, .int 0, .int 0] := by
      show [fvl ad7 rfA7 MA7 64 0 2, fvl ad7 rfA7 MA7 64 1 2, fvl ad7 rfA7 MA7 64 2 2, fvl ad7 rfA7 MA7 64 3 0, fvl ad7 rfA7 MA7 64 4 0, fvl ad7 rfA7 MA7 64 5 0, fvl ad7 rfA7 MA7 64 6 0, fvl ad7 rfA7 MA7 64 7 0] = _
      simp [fvl, nA7 64 (by omega), zA7 64 (by omega), va_rf]
    rw [hf]
    have : j = 0 ∨ j = 1 ∨ j = 2 ∨ j = 3 ∨ j = 4 ∨ j = 5 ∨ j = 6 ∨ j = 7 := by omega
    rcases this with rfl | rfl | rfl | rfl | rfl | rfl | rfl | rfl <;> rfl) clA7 hA
    (hm := fun ad1 sz hJ1 => kX5_init l 64 rfl rfl rfl rfl rfA7 MA7 hJ1 (fun x y b e => by have := clA7 x y b e; omega) (fun x hx => zA7 x (by omega)) sz)
    (hp := fun ad1 H hP => ⟨PcG.blind, fun U hU hWm => ⟨rfl, by rw [hU], by rw [hU]; exact hP, va_K.moved hWm.alike hK, Nst.warm hWm hN⟩⟩)
    (va_cnB 0 S.2.2.2.2 (gN z_1_151) rfl rfl rfl (hN.m 6 rfl) (hq _ z_1_7) (by decide +kernel) ⟨Nat.le_of_ble_eq_true rfl, Nat.le_of_ble_eq_true rfl⟩) rfl (hq _ z_1_150) (Nat.le_of_ble_eq_true rfl) (Nat.le_of_ble_eq_true rfl) hl.1 (Nat.le_of_ble_eq_true rfl) hW hD dX6_init_75 dX6_init_78 dX6_init_79 (fun ad8 H locs hag hW hD => ?_)
  have g8 : ∀ k, k < 1 → ad8 k = ad k := fun k hk => (hag k (by omega)).trans (g7 k hk)
  refine fg_putR S hK (D_J hD) (D_A hD) tyX6 tyX6_ok nmX6 iX6 rfl (a := 0) (by omega) (show shC 0 = (0, 6) from rfl) 7 (by decide) (hq _ z_1_215) (fun _ h9 => h9) rfl (b := 64) (g8 0 (by omega)) rfl rfl rfl rfl rfl hW dX6_init_82 (fun H locs hW => ?_)
  have hD := wsF_D (cf := cof cy ad8 kdI shC rfA8 MA8) (D_J hD) (D_A hD)
  have hW : WSt D cy ad8 kdI shC rfA8 68 (AG ad 1 s.heap.size) MA8 s.heap H locs := hW
  refine lv_aload_n S.1 S.2.1 dX6_init_85 rfl (lv_at hl 0 rfl) ?_
  refine fg_mk S hK iX5 tyX5 tyX5_ok (hq _ z_1_147) (hq _ z_1_148) (hq _ z_1_7) rfl (show shC 68 = (0, 5) from rfl) (fun j hj => by
    have hf : fvs ad8 rfA8 MA8 68 0 (kdI 5) = [.null, .null, .null, .int 0, .int 0, .int 0, .int 0, .int 0] := by
      show [fvl ad8 rfA8 MA8 68 0 2, fvl ad8 rfA8 MA8 68 1 2, fvl ad8 rfA8 MA8 68 2 2, fvl ad8 rfA8 MA8 68 3 0, fvl ad8 rfA8 MA8 68 4 0, fvl ad8 rfA8 MA8 68 5 0, fvl ad8 rfA8 MA8 68 6 0, fvl ad8 rfA8 MA8 68 7 0] = _
      simp [fvl, nA8 68 (by omega), zA8 68 (by omega), va_rf]
    rw [hf]
    have : j = 0 ∨ j = 1 ∨ j = 2 ∨ j = 3 ∨ j = 4 ∨ j = 5 ∨ j = 6 ∨ j = 7 := by omega
    rcases this with rfl | rfl | rfl | rfl | rfl | rfl | rfl | rfl <;> rfl) clA8 hA
    (hm := fun ad1 sz hJ1 => kX5_init l 68 rfl rfl rfl rfl rfA8 MA8 hJ1 (fun x y b e => by have := clA8 x y b e; omega) (fun x hx => zA8 x (by omega)) sz)
    (hp := fun ad1 H hP => ⟨PcG.blind, fun U hU hWm => ⟨rfl, by rw [hU], by rw [hU]; exact hP, va_K.moved hWm.alike hK, Nst.warm hWm hN⟩⟩)
    (va_cnB 0 S.2.2.2.2 (gN z_1_151) rfl rfl rfl (hN.m 6 rfl) (hq _ z_1_7) (by decide +kernel) ⟨Nat.le_of_ble_eq_true rfl, Nat.le_of_ble_eq_true rfl⟩) rfl (hq _ z_1_150) (Nat.le_of_ble_eq_true rfl) (Nat.le_of_ble_eq_true rfl) hl.1 (Nat.le_of_ble_eq_true rfl) hW hD dX6_init_86 dX6_init_89 dX6_init_90 (fun ad9 H locs hag hW hD => ?_)
  have g9 : ∀ k, k < 1 → ad9 k = ad k := fun k hk => (hag k (by omega)).trans (g8 k hk)
  refine fg_putR S hK (D_J hD) (D_A hD) tyX6 tyX6_ok nmX6 iX6 rfl (a := 0) (by omega) (show shC 0 = (0, 6) from rfl) 8 (by decide) (hq _ z_1_216) (fun _ h9 => h9) rfl (b := 68) (g9 0 (by omega)) rfl rfl rfl rfl rfl hW dX6_init_93 (fun H locs hW => ?_)
  have hD := wsF_D (cf := cof cy ad9 kdI shC rfA9 MA9) (D_J hD) (D_A hD)
  have hW : WSt D cy ad9 kdI shC rfA9 72 (AG ad 1 s.heap.size) MA9 s.heap H locs := hW
  refine lv_aload_n S.1 S.2.1 dX6_init_96 rfl (lv_at hl 0 rfl) ?_
  refine lv_lconst (v := (0 : Int64)) S.1 S.2.1 dX6_init_97 rfl ?_
  have hW : WSt D cy ad9 kdI shC rfA9 72 (AG ad 1 s.heap.size) MA9 s.heap H locs := hW
  have hgz := g9 0 (by omega)
  refine fg_putL S hK (D_J hD) (D_A hD) iX6 (by omega) (by omega) (hq _ z_1_217) hgz hW dX6_init_98 (fun H locs hW => ?_)
  have hW : WSt D cy ad9 kdI shC rfA9 72 (AG ad 1 s.heap.size) MA9 s.heap H locs := hW
  refine lv_iconst (v := (0 : Int32)) S.1 S.2.1 dX6_init_101 (by decide) ?_
  refine lv_istore_n (lv' := [(1, .int (0 : Int32)), (0, .ref (ad 0))]) S.1 S.2.1 dX6_init_102 rfl hl (by decide) rfl (fun ls hl => ?_)
  have hD := wsF_D (cf := cof cy ad9 kdI shC rfA9 MA9) (D_J hD) (D_A hD)
  refine lv_iload_n S.1 S.2.1 dX6_init_103 rfl (lv_at hl 0 rfl) ?_
  refine lv_iconst (v := (2 : Int32)) S.1 S.2.1 dX6_init_104 (by decide) ?_
  refine lv_icmp_ge (tgt := 127) S.1 S.2.1 dX6_init_105 (by decide) (fun c9 => absurd c9 (by decide)) (fun c9 => ?_)
  refine lv_aload_n S.1 S.2.1 dX6_init_108 rfl (lv_at hl 1 rfl) ?_
  refine fg_get S hK iX6 rfl (a := 0) (by omega) (show shC 0 = (0, 6) from rfl) 3 (by decide) (hq _ z_1_211) (fun _ h9 => h9) (g9 0 (by omega)) (fvs_R rfl (show rfA9 0 3 = some 49 from rfl)) hW dX6_init_109 ?_
  refine lv_iload_n S.1 S.2.1 dX6_init_112 rfl (lv_at hl 0 rfl) ?_
  refine fg_mkMoment S hK hN hq iX1 (gN z_1_58) (hq _ z_1_54) (hN.m 1 rfl) (show shC 72 = (0, 1) from rfl) rfl rfl rfl (nA9 72 (by omega)) (fun x hx => zA9 x (by omega)) clA9 hA (Nat.le_of_ble_eq_true rfl) (Nat.le_of_ble_eq_true rfl) (Nat.le_of_ble_eq_true rfl) (Nat.le_of_ble_eq_true rfl) hl.1 (Nat.le_of_ble_eq_true rfl) hW hD dX6_init_113 dX6_init_116 dX6_init_117 (fun ad10 H locs hag hW hD => ?_)
  have g10 : ∀ k, k < 1 → ad10 k = ad k := fun k hk => (hag k (by omega)).trans (g9 k hk)
  refine fg_aast S hK (D_J hD) (D_A hD) (a := 49) (b := 72) (n := 2) (by omega) (show shC 49 = (3, 2) from rfl) (by omega) (show shC 72 = (0, 1) from rfl) (hag 49 (by omega)) rfl (vp_dec (by decide)) hW dX6_init_120 (fun H locs hW => ?_)
  have hW : WSt D cy ad10 kdI shC rfB0 76 (AG ad 1 s.heap.size) MA9 s.heap H locs := hW
  have hD := wsF_D (cf := cof cy ad10 kdI shC rfB0 MA9) (D_J hD) (D_A hD)
  refine lv_iinc (v := (1 : Int32)) (lv' := [(1, .int (1 : Int32)), (0, .ref (ad 0))]) S.1 S.2.1 dX6_init_121 hl (k := 0) rfl (by decide) (by decide) rfl (fun ls hl => ?_)
  refine lv_goto (tgt := 103) S.1 S.2.1 dX6_init_124 (by decide) ?_
  refine lv_iload_n S.1 S.2.1 dX6_init_103 rfl (lv_at hl 0 rfl) ?_
  refine lv_iconst (v := (2 : Int32)) S.1 S.2.1 dX6_init_104 (by decide) ?_
  refine lv_icmp_ge (tgt := 127) S.1 S.2.1 dX6_init_105 (by decide) (fun c9 => absurd c9 (by decide)) (fun c9 => ?_)
  refine lv_aload_n S.1 S.2.1 dX6_init_108 rfl (lv_at hl 1 rfl) ?_
  refine fg_get S hK iX6 rfl (a := 0) (by omega) (show shC 0 = (0, 6) from rfl) 3 (by decide) (hq _ z_1_211) (fun _ h9 => h9) (g10 0 (by omega)) (fvs_R rfl (show rfB0 0 3 = some 49 from rfl)) hW dX6_init_109 ?_
  refine lv_iload_n S.1 S.2.1 dX6_init_112 rfl (lv_at hl 0 rfl) ?_
  refine fg_mkMoment S hK hN hq iX1 (gN z_1_58) (hq _ z_1_54) (hN.m 1 rfl) (show shC 76 = (0, 1) from rfl) rfl rfl rfl (nB0 76 (by omega)) (fun x hx => zA9 x (by omega)) clB0 hA (Nat.le_of_ble_eq_true rfl) (Nat.le_of_ble_eq_true rfl) (Nat.le_of_ble_eq_true rfl) (Nat.le_of_ble_eq_true rfl) hl.1 (Nat.le_of_ble_eq_true rfl) hW hD dX6_init_113 dX6_init_116 dX6_init_117 (fun ad11 H locs hag hW hD => ?_)
  have g11 : ∀ k, k < 1 → ad11 k = ad k := fun k hk => (hag k (by omega)).trans (g10 k hk)
  refine fg_aast S hK (D_J hD) (D_A hD) (a := 49) (b := 76) (n := 2) (by omega) (show shC 49 = (3, 2) from rfl) (by omega) (show shC 76 = (0, 1) from rfl) (hag 49 (by omega)) rfl (vp_dec (by decide)) hW dX6_init_120 (fun H locs hW => ?_)
  have hW : WSt D cy ad11 kdI shC rfB1 80 (AG ad 1 s.heap.size) MA9 s.heap H locs := hW
  have hD := wsF_D (cf := cof cy ad11 kdI shC rfB1 MA9) (D_J hD) (D_A hD)
  refine lv_iinc (v := (2 : Int32)) (lv' := [(1, .int (2 : Int32)), (0, .ref (ad 0))]) S.1 S.2.1 dX6_init_121 hl (k := 0) rfl (by decide) (by decide) rfl (fun ls hl => ?_)
  refine lv_goto (tgt := 103) S.1 S.2.1 dX6_init_124 (by decide) ?_
  refine lv_iload_n S.1 S.2.1 dX6_init_103 rfl (lv_at hl 0 rfl) ?_
  refine lv_iconst (v := (2 : Int32)) S.1 S.2.1 dX6_init_104 (by decide) ?_
  refine lv_icmp_ge (tgt := 127) S.1 S.2.1 dX6_init_105 (by decide) (fun c9 => ?_) (fun c9 => absurd (show (2 : Int32) ≤ 2 by decide) c9)
  have hW : WSt D cy ad11 kdV shC rfC 80 (AG ad 1 s.heap.size) MC s.heap H locs := ⟨conv_P hW.1, hW.2⟩
  have hJ11 := D_J hD
  have hA11 := D_A hD
  refine lv_aload_n S.1 S.2.1 dX6_init_127 rfl (lv_at hl 1 rfl) ?_
  refine fg_get S hK iX6 rfl (a := 0) (by omega) sC_0 1 (by decide) (hq _ q_130) (fun _ h9 => h9) (g11 0 (by omega)) (fvs_R rfl rfl) hW dX6_init_128 ?_
  refine lv_aload_n S.1 S.2.1 dX6_init_131 rfl (lv_at hl 1 rfl) ?_
  refine fg_get S hK iX6 rfl (a := 0) (by omega) sC_0 7 (by decide) (hq _ q_131) (fun _ h9 => h9) (g11 0 (by omega)) (fvs_D rfl) hW dX6_init_132 ?_
  refine fl_doneV (fl_runVN S hK hN (kX1_begin l hJ11 3 (rfl : isM 3 = true) 64 rfl MC Mc hbg) ⟨va_cnB 1 S.2.2.2.2 (gN q_132) rfl rfl rfl (hN.m 7 rfl) (hq _ q_41) (by decide +kernel) ⟨Nat.le_of_ble_eq_true rfl, Nat.le_of_ble_eq_true rfl⟩, (hq _ q_133), (hq _ q_134)⟩ (ci := 1) rfl lC_3 sC_3 rfl hl.1 rfl (Nat.le_of_ble_eq_true rfl) dX6_init_135 ⟨Nat.le_of_ble_eq_true rfl, Nat.le_of_ble_eq_true rfl⟩ hW) hA11 hW.2 (fun H locs hW => ?_)
  have hDe := wsF_D (cf := cof cy ad11 kdV shC rfC Mc) hJ11 hA11
  refine W.widen (k := 79) (n := 1000) (Nat.le_of_ble_eq_true rfl) (Nat.le_of_ble_eq_true rfl) ?_
  exact W.vret S.1 S.2.1 hr (fun t ht _ => ⟨⟨ad11, rfl, g11, by subst ht; exact hW.1, hDe⟩, hW.2.F ht⟩) hW.2.2.2 dX6_init_138 hlocks

def fX6_type (p1 : Int32) (M : Mm) : Option (Int32 × Mm) :=
  if p1 < 0 then (some ((-1 : Int32), M)) else (if p1 ≤ (255 : Int32) then (if (M.1 1 1) < (120 : Int32) then (bP (fX4_add p1 M) (fun (M5 : Mm) => some (M5.1 1 1, M5))) else (some ((-3 : Int32), M))) else (some ((-1 : Int32), M)))
set_option maxHeartbeats 4000000 in
set_option maxRecDepth 100000 in
theorem kX6_type (l : Launch) {D : va_G} {cy : Nat → ClassId} {ad : Nat → Nat} (hJ : Inj ad 80)  (p1 : Int32) (M : Mm) (r : Int32) (M' : Mm) (h : fX6_type p1 M = some (r, M')) : Met l yX6_type vX6_type ({ frames := 1, cells := 0, slots := 0, locals := 21 } : Room) (PcF [.ref (ad 0), .int p1] D cy ad kdV shC rfC 80 M) (QcI r D cy ad kdV shC rfC 80 M') 0 0 (AV ad 80) := by
  refine Met.ofW (cc := cX6_type) (maxL := 2) (ret := (some .int)) (by decide) rfl ?_
  intro p e s m args below meth c s₁ B hml hv
  obtain ⟨rfl, hP, hK, hN⟩ := hv
  have hr := B.returns
  have hlocks := B.notSynchronized
  have S : CallFix p m c cX6_type 2 s ([.ref (ad 0), .int p1] : List Value).toArray vX6_type RX6 := ⟨B.exec, B.bytes, hml, findClass_of_methodNamed B.named, atoms_spec (ws := vX6_type) B.pre⟩
  have hq : ∀ w ∈ GW, w.before ([.ref (ad 0), .int p1] : List Value).toArray s = true := fun w h => S.2.2.2.2 w (List.mem_cons_of_mem _ h)
  have hA : ∀ k, k < 80 → AV ad 80 (ad k) := fun k hk => ⟨k, hk, rfl⟩
  have hW : WSt D cy ad kdV shC rfC 80 (AV ad 80) M s.heap s.heap [] := ⟨hP, va_S.rf⟩
  clear hP
  have iX4 : ∀ w ∈ wsX40, w ∈ vX6_type := fun w h => List.mem_cons_of_mem _ (inX4 w h)
  have iX6 : ∀ w ∈ wsX60, w ∈ vX6_type := fun w h => List.mem_cons_of_mem _ (inX6 w h)
  have hl := lv_entry ([.ref (ad 0), .int p1]) (n := 2) (Nat.le_of_ble_eq_true rfl)
  rw [lg_entry_eq]
  generalize (lg_sl ([.ref (ad 0), .int p1]) ++ List.replicate (2 - (lg_sl ([.ref (ad 0), .int p1])).length) Slot.unset).toArray = ls at hl ⊢
  have hl : lv_has ls 2 [(0, .ref (ad 0)), (1, .int p1)] := hl
  rw [fX6_type] at h
  refine lv_iload_n S.1 S.2.1 dX6_type_0 rfl (lv_at hl 1 rfl) ?_
  refine lv_if_lt (tgt := 11) S.1 S.2.1 dX6_type_1 (by decide) (fun c1 => ?_) (fun c1 => ?_)
  · replace h := (if_pos c1).symm.trans h
    refine lv_iconst (v := (-1 : Int32)) S.1 S.2.1 dX6_type_11 (by decide) ?_
    obtain ⟨rfl, rfl⟩ := s2 h
    exact fl_iret S.1 S.2.1 hr hlocks hW dX6_type_12
  · replace h := (if_neg c1).symm.trans h
    refine lv_iload_n S.1 S.2.1 dX6_type_4 rfl (lv_at hl 1 rfl) ?_
    refine lv_sipush (v := (255 : Int32)) S.1 S.2.1 dX6_type_5 (by decide) ?_
    refine lv_icmp_le (tgt := 13) S.1 S.2.1 dX6_type_8 (by decide) (fun c2 => ?_) (fun c2 => ?_)
    · replace h := (if_pos c2).symm.trans h
      refine lv_aload_n S.1 S.2.1 dX6_type_13 rfl (lv_at hl 0 rfl) ?_
      refine fl_get S hK iX6 rfl lC_0 sC_0 0 (by decide) (hq _ q_126) (fun _ h9 => h9) (fvs_R rfl rfl) hW dX6_type_14 ?_
      refine fl_getN S hK iX4 rfl lC_1 sC_1 1 (by decide) (hN.f 0 rfl) (fun _ h9 => h9) (fvs_I rfl) hW dX6_type_17 ?_
      refine lv_bipush (v := (120 : Int32)) S.1 S.2.1 dX6_type_20 (by decide) ?_
      refine lv_icmp_lt (tgt := 28) S.1 S.2.1 dX6_type_22 (by decide) (fun c3 => ?_) (fun c3 => ?_)
      · replace h := (if_pos c3).symm.trans h
        refine lv_aload_n S.1 S.2.1 dX6_type_28 rfl (lv_at hl 0 rfl) ?_
        refine fl_get S hK iX6 rfl lC_0 sC_0 0 (by decide) (hq _ q_126) (fun _ h9 => h9) (fvs_R rfl rfl) hW dX6_type_29 ?_
        refine lv_iload_n S.1 S.2.1 dX6_type_32 rfl (lv_at hl 1 rfl) ?_
        obtain ⟨M5, u4, h⟩ := bP_some h
        refine fl_doneV (fl_runVN S hK hN (kX4_add l hJ p1 M M5 u4) ⟨va_cnB 1 S.2.2.2.2 (gN q_127) rfl rfl rfl (hN.m 9 rfl) (hq _ q_76) (by decide +kernel) ⟨Nat.le_of_ble_eq_true rfl, Nat.le_of_ble_eq_true rfl⟩, (hq _ q_128), (hq _ q_129)⟩ (ci := 4) rfl lC_1 sC_1 rfl hl.1 rfl (Nat.le_of_ble_eq_true rfl) dX6_type_33 ⟨Nat.zero_le _, Nat.zero_le _⟩ hW) hA hW.2 (fun H locs hW => ?_)
        refine lv_aload_n S.1 S.2.1 dX6_type_36 rfl (lv_at hl 0 rfl) ?_
        refine fl_get S hK iX6 rfl lC_0 sC_0 0 (by decide) (hq _ q_126) (fun _ h9 => h9) (fvs_R rfl rfl) hW dX6_type_37 ?_
        refine fl_getN S hK iX4 rfl lC_1 sC_1 1 (by decide) (hN.f 0 rfl) (fun _ h9 => h9) (fvs_I rfl) hW dX6_type_40 ?_
        obtain ⟨rfl, rfl⟩ := s2 h
        exact fl_iret S.1 S.2.1 hr hlocks hW dX6_type_43
      · replace h := (if_neg c3).symm.trans h
        refine lv_bipush (v := (-3 : Int32)) S.1 S.2.1 dX6_type_25 (by decide) ?_
        obtain ⟨rfl, rfl⟩ := s2 h
        exact fl_iret S.1 S.2.1 hr hlocks hW dX6_type_27
    · replace h := (if_neg c2).symm.trans h
      refine lv_iconst (v := (-1 : Int32)) S.1 S.2.1 dX6_type_11 (by decide) ?_
      obtain ⟨rfl, rfl⟩ := s2 h
      exact fl_iret S.1 S.2.1 hr hlocks hW dX6_type_12
def fX6_clear (M : Mm) : Option (Int32 × Mm) :=
  lt (wI M 1 1 (0 : Int32)) (fun (M1 : Mm) => some (M.1 1 1, M1))
set_option maxHeartbeats 4000000 in
set_option maxRecDepth 100000 in
theorem kX6_clear (l : Launch) {D : va_G} {cy : Nat → ClassId} {ad : Nat → Nat} (hJ : Inj ad 80)   (M : Mm) (r : Int32) (M' : Mm) (h : fX6_clear M = some (r, M')) : Met l yX6_clear vX6_clear ({ frames := 0, cells := 0, slots := 0, locals := 0 } : Room) (PcF [.ref (ad 0)] D cy ad kdV shC rfC 80 M) (QcI r D cy ad kdV shC rfC 80 M') 0 0 (AV ad 80) := by
  refine Met.ofW (cc := cX6_clear) (maxL := 2) (ret := (some .int)) (by decide) rfl ?_
  intro p e s m args below meth c s₁ B hml hv
  obtain ⟨rfl, hP, hK, hN⟩ := hv
  have hr := B.returns
  have hlocks := B.notSynchronized
  have S : CallFix p m c cX6_clear 2 s ([.ref (ad 0)] : List Value).toArray vX6_clear RX6 := ⟨B.exec, B.bytes, hml, findClass_of_methodNamed B.named, atoms_spec (ws := vX6_clear) B.pre⟩
  have hq : ∀ w ∈ GW, w.before ([.ref (ad 0)] : List Value).toArray s = true := fun w h => S.2.2.2.2 w (List.mem_cons_of_mem _ h)
  have hA : ∀ k, k < 80 → AV ad 80 (ad k) := fun k hk => ⟨k, hk, rfl⟩
  have hW : WSt D cy ad kdV shC rfC 80 (AV ad 80) M s.heap s.heap [] := ⟨hP, va_S.rf⟩
  clear hP
  have iX4 : ∀ w ∈ wsX40, w ∈ vX6_clear := fun w h => List.mem_cons_of_mem _ (inX4 w h)
  have iX6 : ∀ w ∈ wsX60, w ∈ vX6_clear := fun w h => List.mem_cons_of_mem _ (inX6 w h)
  have hl := lv_entry ([.ref (ad 0)]) (n := 2) (Nat.le_of_ble_eq_true rfl)
  rw [lg_entry_eq]
  generalize (lg_sl ([.ref (ad 0)]) ++ List.replicate (2 - (lg_sl ([.ref (ad 0)])).length) Slot.unset).toArray = ls at hl ⊢
  have hl : lv_has ls 2 [(0, .ref (ad 0))] := hl
  rw [fX6_clear] at h
  refine lv_aload_n S.1 S.2.1 dX6_clear_0 rfl (lv_at hl 0 rfl) ?_
  refine fl_get S hK iX6 rfl lC_0 sC_0 0 (by decide) (hq _ q_126) (fun _ h9 => h9) (fvs_R rfl rfl) hW dX6_clear_1 ?_
  refine fl_getN S hK iX4 rfl lC_1 sC_1 1 (by decide) (hN.f 0 rfl) (fun _ h9 => h9) (fvs_I rfl) hW dX6_clear_4 ?_
  refine lv_istore_n (lv' := [(1, .int (M.1 1 1)), (0, .ref (ad 0))]) S.1 S.2.1 dX6_clear_7 rfl hl (by decide) rfl (fun ls hl => ?_)
  refine lv_aload_n S.1 S.2.1 dX6_clear_8 rfl (lv_at hl 1 rfl) ?_
  refine fl_get S hK iX6 rfl lC_0 sC_0 0 (by decide) (hq _ q_126) (fun _ h9 => h9) (fvs_R rfl rfl) hW dX6_clear_9 ?_
  refine lv_iconst (v := (0 : Int32)) S.1 S.2.1 dX6_clear_12 (by decide) ?_
  refine fl_putN S hK hJ hA tyX4 tyX4_ok nmX4 iX4 rfl lC_1 sC_1 1 (by decide) (hN.f 0 rfl) (fun _ h9 => h9) rfl (ty := .int) rfl rfl rfl (wI M 1 1 (0 : Int32)) (by decide) (fvs_setI _ _ _ _ _ _ _ rfl) (fun j _ hj => cof_wI_ne hj) hW dX6_clear_13 (fun H locs hW => ?_)
  obtain ⟨M1, e2, h⟩ := lt_some h
  rw [e2] at hW
  clear e2
  refine lv_iload_n S.1 S.2.1 dX6_clear_16 rfl (lv_at hl 0 rfl) ?_
  obtain ⟨rfl, rfl⟩ := s2 h
  exact fl_iret S.1 S.2.1 hr hlocks hW dX6_clear_17
def fX6_beginAnew_L29  : Nat → Int32 → Mm → Option (Int32 × Mm)
  | 0, _, _ => none
  | n + 1, x1, Ml => if (2 : Int32) ≤ x1 then (some (x1, Ml)) else (ix x1 2 (lt (wI Ml 50 (x1).toNatClampNeg (0 : Int32)) (fun (M12 : Mm) => fX6_beginAnew_L29 n (x1 + (1 : Int32)) M12)))
def fX6_beginAnew (M : Mm) : Option (Mm) :=
  gd (isT (M.1 0 7).toNatClampNeg) (bP (fX1_begin 3 ((M.1 0 7).toNatClampNeg) M) (fun (M3 : Mm) => lt (wI M3 7 2 (0 : Int32)) (fun (M4 : Mm) => lt (wI M4 61 2 (0 : Int32)) (fun (M6 : Mm) => b2 (fX6_beginAnew_L29 50000 (0 : Int32) M6) (fun (w8 : Int32) (M9 : Mm) => some M9)))))
set_option maxHeartbeats 4000000 in
set_option maxRecDepth 100000 in
theorem kX6_beginAnew (l : Launch) {D : va_G} {cy : Nat → ClassId} {ad : Nat → Nat} (hJ : Inj ad 80)   (M : Mm) (M' : Mm) (h : fX6_beginAnew M = some M') : Met l yX6_beginAnew vX6_beginAnew ({ frames := 2, cells := 0, slots := 0, locals := 42 } : Room) (PcF [.ref (ad 0)] D cy ad kdV shC rfC 80 M) (QcV D cy ad kdV shC rfC 80 M') 0 0 (AV ad 80) := by
  refine Met.ofW (cc := cX6_beginAnew) (maxL := 2) (ret := none) (by decide) rfl ?_
  intro p e s m args below meth c s₁ B hml hv
  obtain ⟨rfl, hP, hK, hN⟩ := hv
  have hr := B.returns
  have hlocks := B.notSynchronized
  have S : CallFix p m c cX6_beginAnew 2 s ([.ref (ad 0)] : List Value).toArray vX6_beginAnew RX6 := ⟨B.exec, B.bytes, hml, findClass_of_methodNamed B.named, atoms_spec (ws := vX6_beginAnew) B.pre⟩
  have hq : ∀ w ∈ GW, w.before ([.ref (ad 0)] : List Value).toArray s = true := fun w h => S.2.2.2.2 w (List.mem_cons_of_mem _ h)
  have hA : ∀ k, k < 80 → AV ad 80 (ad k) := fun k hk => ⟨k, hk, rfl⟩
  have hW : WSt D cy ad kdV shC rfC 80 (AV ad 80) M s.heap s.heap [] := ⟨hP, va_S.rf⟩
  clear hP
  have iX2 : ∀ w ∈ wsX20, w ∈ vX6_beginAnew := fun w h => List.mem_cons_of_mem _ (inX2 w h)
  have iX3 : ∀ w ∈ wsX30, w ∈ vX6_beginAnew := fun w h => List.mem_cons_of_mem _ (inX3 w h)
  have iX6 : ∀ w ∈ wsX60, w ∈ vX6_beginAnew := fun w h => List.mem_cons_of_mem _ (inX6 w h)
  have hl := lv_entry ([.ref (ad 0)]) (n := 2) (Nat.le_of_ble_eq_true rfl)
  rw [lg_entry_eq]
  generalize (lg_sl ([.ref (ad 0)]) ++ List.replicate (2 - (lg_sl ([.ref (ad 0)])).length) Slot.unset).toArray = ls at hl ⊢
  have hl : lv_has ls 2 [(0, .ref (ad 0))] := hl
  rw [fX6_beginAnew] at h
  refine lv_aload_n S.1 S.2.1 dX6_beginAnew_0 rfl (lv_at hl 0 rfl) ?_
  refine fl_get S hK iX6 rfl lC_0 sC_0 1 (by decide) (hq _ q_130) (fun _ h9 => h9) (fvs_R rfl rfl) hW dX6_beginAnew_1 ?_
  refine lv_aload_n S.1 S.2.1 dX6_beginAnew_4 rfl (lv_at hl 0 rfl) ?_
  obtain ⟨t1k, h⟩ := gd_some h
  obtain ⟨⟨t1l0, t1s0⟩, ⟨t1l1, t1s1⟩, ⟨t1l2, t1s2⟩, ⟨t1l3, t1s3⟩, t1r0, t1r1, t1r2⟩ := isT_ok t1k
  refine fl_get S hK iX6 rfl lC_0 sC_0 7 (by decide) (hq _ q_131) (fun _ h9 => h9) (fvs_D rfl) hW dX6_beginAnew_5 ?_
  obtain ⟨M3, u2, h⟩ := bP_some h
  refine fl_doneV (fl_runVN S hK hN (kX1_begin l hJ 3 (rfl : isM 3 = true) ((M.1 0 7).toNatClampNeg) t1k M M3 u2) ⟨va_cnB 1 S.2.2.2.2 (gN q_132) rfl rfl rfl (hN.m 7 rfl) (hq _ q_41) (by decide +kernel) ⟨Nat.le_of_ble_eq_true rfl, Nat.le_of_ble_eq_true rfl⟩, (hq _ q_133), (hq _ q_134)⟩ (ci := 1) rfl lC_3 sC_3 rfl hl.1 rfl (Nat.le_of_ble_eq_true rfl) dX6_beginAnew_8 ⟨Nat.zero_le _, Nat.zero_le _⟩ hW) hA hW.2 (fun H locs hW => ?_)
  refine lv_aload_n S.1 S.2.1 dX6_beginAnew_11 rfl (lv_at hl 0 rfl) ?_
  refine fl_get S hK iX6 rfl lC_0 sC_0 2 (by decide) (hq _ q_135) (fun _ h9 => h9) (fvs_R rfl rfl) hW dX6_beginAnew_12 ?_
  refine lv_iconst (v := (0 : Int32)) S.1 S.2.1 dX6_beginAnew_15 (by decide) ?_
  refine fl_putN S hK hJ hA tyX2 tyX2_ok nmX2 iX2 rfl lC_7 sC_7 2 (by decide) (hN.f 8 rfl) (fun _ h9 => h9) rfl (ty := .int) rfl rfl rfl (wI M3 7 2 (0 : Int32)) (by decide) (fvs_setI _ _ _ _ _ _ _ rfl) (fun j _ hj => cof_wI_ne hj) hW dX6_beginAnew_16 (fun H locs hW => ?_)
  obtain ⟨M4, e5, h⟩ := lt_some h
  rw [e5] at hW
  clear e5
  refine lv_aload_n S.1 S.2.1 dX6_beginAnew_19 rfl (lv_at hl 0 rfl) ?_
  refine fl_get S hK iX6 rfl lC_0 sC_0 6 (by decide) (hq _ q_136) (fun _ h9 => h9) (fvs_R rfl rfl) hW dX6_beginAnew_20 ?_
  refine lv_iconst (v := (0 : Int32)) S.1 S.2.1 dX6_beginAnew_23 (by decide) ?_
  refine fl_putN S hK hJ hA tyX3 tyX3_ok nmX3 iX3 rfl lC_61 sC_61 2 (by decide) (hN.f 12 rfl) (fun _ h9 => h9) rfl (ty := .int) rfl rfl rfl (wI M4 61 2 (0 : Int32)) (by decide) (fvs_setI _ _ _ _ _ _ _ rfl) (fun j _ hj => cof_wI_ne hj) hW dX6_beginAnew_24 (fun H locs hW => ?_)
  obtain ⟨M6, e7, h⟩ := lt_some h
  rw [e7] at hW
  clear e7
  refine lv_iconst (v := (0 : Int32)) S.1 S.2.1 dX6_beginAnew_27 (by decide) ?_
  refine lv_istore_n (lv' := [(1, .int (0 : Int32)), (0, .ref (ad 0))]) S.1 S.2.1 dX6_beginAnew_28 rfl hl (by decide) rfl (fun ls hl => ?_)
  have L29 : ∀ (n : Nat) (x1 : Int32) (Ml : Mm) (w8 : Int32) (M9 : Mm), fX6_beginAnew_L29 n x1 Ml = some (w8, M9) → ∀ (H : Heap) (locs : List Loc) (ls : Array Slot), lv_has ls 2 [(0, .ref (ad 0)), (1, .int x1)] → WSt D cy ad kdV shC rfC 80 (AV ad 80) Ml s.heap H locs → (∀ (H : Heap) (locs : List Loc) (ls : Array Slot), lv_has ls 2 [(0, .ref (ad 0)), (1, .int w8)] → WSt D cy ad kdV shC rfC 80 (AV ad 80) M9 s.heap H locs → W p l e (headSpec vX6_beginAnew ({ frames := 2, cells := 0, slots := 0, locals := 42 } : Room)).room s m ([.ref (ad 0)] : List Value).toArray below meth c H locs 0 0 (MQ below (QcV D cy ad kdV shC rfC 80 M') ([.ref (ad 0)] : List Value).toArray s 0 0 (AV ad 80)) (F0 m 47 ls [])) → W p l e (headSpec vX6_beginAnew ({ frames := 2, cells := 0, slots := 0, locals := 42 } : Room)).room s m ([.ref (ad 0)] : List Value).toArray below meth c H locs 0 0 (MQ below (QcV D cy ad kdV shC rfC 80 M') ([.ref (ad 0)] : List Value).toArray s 0 0 (AV ad 80)) (F0 m 29 ls []) := by
    intro n
    induction n with
    | zero => intro x1 Ml w8 M9 h; cases h
    | succ n ih =>
      intro x1 Ml w8 M9 h H locs ls hl hW K
      rw [fX6_beginAnew_L29] at h
      refine lv_iload_n S.1 S.2.1 dX6_beginAnew_29 rfl (lv_at hl 1 rfl) ?_
      refine lv_iconst (v := (2 : Int32)) S.1 S.2.1 dX6_beginAnew_30 (by decide) ?_
      refine lv_icmp_ge (tgt := 47) S.1 S.2.1 dX6_beginAnew_31 (by decide) (fun c10 => ?_) (fun c10 => ?_)
      · replace h := (if_pos c10).symm.trans h
        obtain ⟨rfl, rfl⟩ := s2 h
        exact K _ _ _ hl hW
      · replace h := (if_neg c10).symm.trans h
        refine lv_aload_n S.1 S.2.1 dX6_beginAnew_34 rfl (lv_at hl 0 rfl) ?_
        refine fl_get S hK iX6 rfl lC_0 sC_0 4 (by decide) (hq _ q_137) (fun _ h9 => h9) (fvs_R rfl rfl) hW dX6_beginAnew_35 ?_
        refine lv_iload_n S.1 S.2.1 dX6_beginAnew_38 rfl (lv_at hl 1 rfl) ?_
        refine lv_iconst (v := (0 : Int32)) S.1 S.2.1 dX6_beginAnew_39 (by decide) ?_
        obtain ⟨g11, h⟩ := ix_some h
        refine fl_zast S hK hJ hA lC_50 sC_50 g11 (zb_nar (Or.inl rfl)) hW dX6_beginAnew_40 (fun H locs hW => ?_)
        obtain ⟨M12, e13, h⟩ := lt_some h
        rw [e13] at hW
        clear e13
        refine lv_iinc (v := x1 + (1 : Int32)) (lv' := [(1, .int (x1 + (1 : Int32))), (0, .ref (ad 0))]) S.1 S.2.1 dX6_beginAnew_41 hl (k := 1) rfl rfl (by decide) rfl (fun ls hl => ?_)
        refine lv_goto (tgt := 29) S.1 S.2.1 dX6_beginAnew_44 (by decide) ?_
        exact ih _ _ _ _ h _ _ _ (lv_sub hl [1, 0] rfl) hW K
  obtain ⟨w8, M9, u14, h⟩ := b2_some h
  refine L29 50000 _ _ _ _ u14 _ _ _ (lv_sub hl [1, 0] rfl) hW (fun H locs ls hl hW => ?_)
  clear L29
  obtain rfl := s1 h
  exact fl_vret S.1 S.2.1 hr hlocks hW dX6_beginAnew_47
def fX6_town (M : Mm) : Option (Int32 × Mm) :=
  gd (isT (M.1 0 8).toNatClampNeg) (b2 (fX4_reads ((M.1 0 8).toNatClampNeg) M) (fun (v3 : Int32) (M4 : Mm) => if v3 = 0 then (some ((-10 : Int32) - (M4.1 1 3), M4)) else (gd (isT (M4.1 0 7).toNatClampNeg) (gd (isT (M4.1 0 8).toNatClampNeg) (lt (wI M4 0 7 (M4.1 0 8)) (fun (M8 : Mm) => lt (wI M8 0 8 (M4.1 0 7)) (fun (M10 : Mm) => lt (wI M10 1 1 (0 : Int32)) (fun (M12 : Mm) => bP (fX6_beginAnew M12) (fun (M15 : Mm) => gd (isT (M15.1 0 7).toNatClampNeg) (some (M15.1 ((M15.1 0 7).toNatClampNeg) 3, M15)))))))))))
set_option maxHeartbeats 4000000 in
set_option maxRecDepth 100000 in
theorem kX6_town (l : Launch) {D : va_G} {cy : Nat → ClassId} {ad : Nat → Nat} (hJ : Inj ad 80)   (M : Mm) (r : Int32) (M' : Mm) (h : fX6_town M = some (r, M')) : Met l yX6_town vX6_town ({ frames := 7, cells := 0, slots := 0, locals := 152 } : Room) (PcF [.ref (ad 0)] D cy ad kdV shC rfC 80 M) (QcI r D cy ad kdV shC rfC 80 M') 0 0 (AV ad 80) := by
  refine Met.ofW (cc := cX6_town) (maxL := 2) (ret := (some .int)) (by decide) rfl ?_
  intro p e s m args below meth c s₁ B hml hv
  obtain ⟨rfl, hP, hK, hN⟩ := hv
  have hr := B.returns
  have hlocks := B.notSynchronized
  have S : CallFix p m c cX6_town 2 s ([.ref (ad 0)] : List Value).toArray vX6_town RX6 := ⟨B.exec, B.bytes, hml, findClass_of_methodNamed B.named, atoms_spec (ws := vX6_town) B.pre⟩
  have hq : ∀ w ∈ GW, w.before ([.ref (ad 0)] : List Value).toArray s = true := fun w h => S.2.2.2.2 w (List.mem_cons_of_mem _ h)
  have hA : ∀ k, k < 80 → AV ad 80 (ad k) := fun k hk => ⟨k, hk, rfl⟩
  have hW : WSt D cy ad kdV shC rfC 80 (AV ad 80) M s.heap s.heap [] := ⟨hP, va_S.rf⟩
  clear hP
  have iX4 : ∀ w ∈ wsX40, w ∈ vX6_town := fun w h => List.mem_cons_of_mem _ (inX4 w h)
  have iX5 : ∀ w ∈ wsX50, w ∈ vX6_town := fun w h => List.mem_cons_of_mem _ (inX5 w h)
  have iX6 : ∀ w ∈ wsX60, w ∈ vX6_town := fun w h => List.mem_cons_of_mem _ (inX6 w h)
  have hl := lv_entry ([.ref (ad 0)]) (n := 2) (Nat.le_of_ble_eq_true rfl)
  rw [lg_entry_eq]
  generalize (lg_sl ([.ref (ad 0)]) ++ List.replicate (2 - (lg_sl ([.ref (ad 0)])).length) Slot.unset).toArray = ls at hl ⊢
  have hl : lv_has ls 2 [(0, .ref (ad 0))] := hl
  rw [fX6_town] at h
  refine lv_aload_n S.1 S.2.1 dX6_town_0 rfl (lv_at hl 0 rfl) ?_
  refine fl_get S hK iX6 rfl lC_0 sC_0 0 (by decide) (hq _ q_126) (fun _ h9 => h9) (fvs_R rfl rfl) hW dX6_town_1 ?_
  refine lv_aload_n S.1 S.2.1 dX6_town_4 rfl (lv_at hl 0 rfl) ?_
  obtain ⟨t1k, h⟩ := gd_some h
  obtain ⟨⟨t1l0, t1s0⟩, ⟨t1l1, t1s1⟩, ⟨t1l2, t1s2⟩, ⟨t1l3, t1s3⟩, t1r0, t1r1, t1r2⟩ := isT_ok t1k
  refine fl_get S hK iX6 rfl lC_0 sC_0 8 (by decide) (hq _ q_138) (fun _ h9 => h9) (fvs_D rfl) hW dX6_town_5 ?_
  obtain ⟨v3, M4, u2, h⟩ := b2_some h
  refine fl_doneI (fl_runVN S hK hN (kX4_reads l hJ ((M.1 0 8).toNatClampNeg) t1k M v3 M4 u2) ⟨va_cnB 1 S.2.2.2.2 (gN q_139) rfl rfl rfl (hN.m 10 rfl) (hq _ q_76) (by decide +kernel) ⟨Nat.le_of_ble_eq_true rfl, Nat.le_of_ble_eq_true rfl⟩, (hq _ q_140), (hq _ q_141)⟩ (ci := 4) rfl lC_1 sC_1 rfl hl.1 rfl (Nat.le_of_ble_eq_true rfl) dX6_town_8 ⟨Nat.zero_le _, Nat.zero_le _⟩ hW) hA hW.2 (fun H locs hW => ?_)
  refine lv_if_ne (tgt := 25) S.1 S.2.1 dX6_town_11 (by decide) (fun c5 => ?_) (fun c5 => ?_)
  · replace h := (if_neg c5).symm.trans h
    refine lv_aload_n S.1 S.2.1 dX6_town_25 rfl (lv_at hl 0 rfl) ?_
    obtain ⟨t6k, h⟩ := gd_some h
    obtain ⟨⟨t6l0, t6s0⟩, ⟨t6l1, t6s1⟩, ⟨t6l2, t6s2⟩, ⟨t6l3, t6s3⟩, t6r0, t6r1, t6r2⟩ := isT_ok t6k
    refine fl_get S hK iX6 rfl lC_0 sC_0 7 (by decide) (hq _ q_131) (fun _ h9 => h9) (fvs_D rfl) hW dX6_town_26 ?_
    refine lv_astore_n (lv' := [(1, .ref (ad ((M4.1 0 7).toNatClampNeg))), (0, .ref (ad 0))]) S.1 S.2.1 dX6_town_29 rfl hl (by decide) rfl (fun ls hl => ?_)
    refine lv_aload_n S.1 S.2.1 dX6_town_30 rfl (lv_at hl 1 rfl) ?_
    refine lv_aload_n S.1 S.2.1 dX6_town_31 rfl (lv_at hl 1 rfl) ?_
    obtain ⟨t7k, h⟩ := gd_some h
    obtain ⟨⟨t7l0, t7s0⟩, ⟨t7l1, t7s1⟩, ⟨t7l2, t7s2⟩, ⟨t7l3, t7s3⟩, t7r0, t7r1, t7r2⟩ := isT_ok t7k
    refine fl_get S hK iX6 rfl lC_0 sC_0 8 (by decide) (hq _ q_138) (fun _ h9 => h9) (fvs_D rfl) hW dX6_town_32 ?_
    refine fl_put S hK hJ hA tyX6 tyX6_ok nmX6 iX6 rfl lC_0 sC_0 7 (by decide) (hq _ q_131) (fun _ h9 => h9) rfl (ty := .object "RoomBorn$Told") rfl rfl rfl (wI M4 0 7 (M4.1 0 8)) (by decide) (fvs_setD _ _ _ _ _ _ _ rfl) (fun j _ hj => cof_wI_ne hj) hW dX6_town_35 (fun H locs hW => ?_)
    obtain ⟨M8, e9, h⟩ := lt_some h
    rw [e9] at hW
    clear e9
    refine lv_aload_n S.1 S.2.1 dX6_town_38 rfl (lv_at hl 1 rfl) ?_
    refine lv_aload_n S.1 S.2.1 dX6_town_39 rfl (lv_at hl 0 rfl) ?_
    refine fl_put S hK hJ hA tyX6 tyX6_ok nmX6 iX6 rfl lC_0 sC_0 8 (by decide) (hq _ q_138) (fun _ h9 => h9) rfl (ty := .object "RoomBorn$Told") rfl rfl rfl (wI M8 0 8 (M4.1 0 7)) (by decide) (fvs_setD _ _ _ _ _ _ _ rfl) (fun j _ hj => cof_wI_ne hj) hW dX6_town_40 (fun H locs hW => ?_)
    obtain ⟨M10, e11, h⟩ := lt_some h
    rw [e11] at hW
    clear e11
    refine lv_aload_n S.1 S.2.1 dX6_town_43 rfl (lv_at hl 1 rfl) ?_
    refine fl_get S hK iX6 rfl lC_0 sC_0 0 (by decide) (hq _ q_126) (fun _ h9 => h9) (fvs_R rfl rfl) hW dX6_town_44 ?_
    refine lv_iconst (v := (0 : Int32)) S.1 S.2.1 dX6_town_47 (by decide) ?_
    refine fl_putN S hK hJ hA tyX4 tyX4_ok nmX4 iX4 rfl lC_1 sC_1 1 (by decide) (hN.f 0 rfl) (fun _ h9 => h9) rfl (ty := .int) rfl rfl rfl (wI M10 1 1 (0 : Int32)) (by decide) (fvs_setI _ _ _ _ _ _ _ rfl) (fun j _ hj => cof_wI_ne hj) hW dX6_town_48 (fun H locs hW => ?_)
    obtain ⟨M12, e13, h⟩ := lt_some h
    rw [e13] at hW
    clear e13
    refine lv_aload_n S.1 S.2.1 dX6_town_51 rfl (lv_at hl 1 rfl) ?_
    obtain ⟨M15, u14, h⟩ := bP_some h
    refine fl_doneV (fl_runV S hK hN (kX6_beginAnew l hJ M12 M15 u14) (cwV 0 S.2.2.2.2 (gV q_143 q_144 q_145 q_3 q_142) rfl rfl rfl (by decide +kernel) ⟨Nat.le_of_ble_eq_true rfl, Nat.le_of_ble_eq_true rfl⟩) (ci := 6) rfl lC_0 sC_0 rfl hl.1 rfl (Nat.le_of_ble_eq_true rfl) dX6_town_52 ⟨Nat.zero_le _, Nat.zero_le _⟩ hW) hA hW.2 (fun H locs hW => ?_)
    refine lv_aload_n S.1 S.2.1 dX6_town_55 rfl (lv_at hl 1 rfl) ?_
    obtain ⟨t16k, h⟩ := gd_some h
    obtain ⟨⟨t16l0, t16s0⟩, ⟨t16l1, t16s1⟩, ⟨t16l2, t16s2⟩, ⟨t16l3, t16s3⟩, t16r0, t16r1, t16r2⟩ := isT_ok t16k
    refine fl_get S hK iX6 rfl lC_0 sC_0 7 (by decide) (hq _ q_131) (fun _ h9 => h9) (fvs_D rfl) hW dX6_town_56 ?_
    refine fl_getN S hK iX5 rfl t16l0 t16s0 3 (by decide) (hN.f 20 rfl) (fun _ h9 => h9) (fvs_I rfl) hW dX6_town_59 ?_
    obtain ⟨rfl, rfl⟩ := s2 h
    exact fl_iret S.1 S.2.1 hr hlocks hW dX6_town_62
  · replace h := (if_pos c5).symm.trans h
    refine lv_bipush (v := (-10 : Int32)) S.1 S.2.1 dX6_town_14 (by decide) ?_
    refine lv_aload_n S.1 S.2.1 dX6_town_16 rfl (lv_at hl 0 rfl) ?_
    refine fl_get S hK iX6 rfl lC_0 sC_0 0 (by decide) (hq _ q_126) (fun _ h9 => h9) (fvs_R rfl rfl) hW dX6_town_17 ?_
    refine fl_getN S hK iX4 rfl lC_1 sC_1 3 (by decide) (hN.f 1 rfl) (fun _ h9 => h9) (fvs_I rfl) hW dX6_town_20 ?_
    refine lv_isub S.1 S.2.1 dX6_town_23 ?_
    obtain ⟨rfl, rfl⟩ := s2 h
    exact fl_iret S.1 S.2.1 hr hlocks hW dX6_town_24
def fX6_isRoom (p1 : Int32) (M : Mm) : Option (Int32) :=
  if p1 < 0 then (some (0 : Int32)) else (gd (isT (M.1 0 7).toNatClampNeg) (if (M.1 ((M.1 0 7).toNatClampNeg) 4) ≤ p1 then (some (0 : Int32)) else (some (1 : Int32))))
set_option maxHeartbeats 4000000 in
set_option maxRecDepth 100000 in
theorem kX6_isRoom (l : Launch) {D : va_G} {cy : Nat → ClassId} {ad : Nat → Nat} (hJ : Inj ad 80)  (p1 : Int32) (M : Mm) (r : Int32) (h : fX6_isRoom p1 M = some r) : Met l yX6_isRoom vX6_isRoom ({ frames := 0, cells := 0, slots := 0, locals := 0 } : Room) (PcF [.ref (ad 0), .int p1] D cy ad kdV shC rfC 80 M) (QcI r D cy ad kdV shC rfC 80 M) 0 0 (AV ad 80) := by
  refine Met.ofW (cc := cX6_isRoom) (maxL := 2) (ret := (some .boolean)) (by decide) rfl ?_
  intro p e s m args below meth c s₁ B hml hv
  obtain ⟨rfl, hP, hK, hN⟩ := hv
  have hr := B.returns
  have hlocks := B.notSynchronized
  have S : CallFix p m c cX6_isRoom 2 s ([.ref (ad 0), .int p1] : List Value).toArray vX6_isRoom RX6 := ⟨B.exec, B.bytes, hml, findClass_of_methodNamed B.named, atoms_spec (ws := vX6_isRoom) B.pre⟩
  have hq : ∀ w ∈ GW, w.before ([.ref (ad 0), .int p1] : List Value).toArray s = true := fun w h => S.2.2.2.2 w (List.mem_cons_of_mem _ h)
  have hA : ∀ k, k < 80 → AV ad 80 (ad k) := fun k hk => ⟨k, hk, rfl⟩
  have hW : WSt D cy ad kdV shC rfC 80 (AV ad 80) M s.heap s.heap [] := ⟨hP, va_S.rf⟩
  clear hP
  have iX5 : ∀ w ∈ wsX50, w ∈ vX6_isRoom := fun w h => List.mem_cons_of_mem _ (inX5 w h)
  have iX6 : ∀ w ∈ wsX60, w ∈ vX6_isRoom := fun w h => List.mem_cons_of_mem _ (inX6 w h)
  have hl := lv_entry ([.ref (ad 0), .int p1]) (n := 2) (Nat.le_of_ble_eq_true rfl)
  rw [lg_entry_eq]
  generalize (lg_sl ([.ref (ad 0), .int p1]) ++ List.replicate (2 - (lg_sl ([.ref (ad 0), .int p1])).length) Slot.unset).toArray = ls at hl ⊢
  have hl : lv_has ls 2 [(0, .ref (ad 0)), (1, .int p1)] := hl
  rw [fX6_isRoom] at h
  refine lv_iload_n S.1 S.2.1 dX6_isRoom_0 rfl (lv_at hl 1 rfl) ?_
  refine lv_if_lt (tgt := 19) S.1 S.2.1 dX6_isRoom_1 (by decide) (fun c1 => ?_) (fun c1 => ?_)
  · replace h := (if_pos c1).symm.trans h
    refine lv_iconst (v := (0 : Int32)) S.1 S.2.1 dX6_isRoom_19 (by decide) ?_
    obtain rfl := s1 h
    exact fl_zret S.1 S.2.1 hr hlocks (Or.inl rfl) hW dX6_isRoom_20
  · replace h := (if_neg c1).symm.trans h
    refine lv_iload_n S.1 S.2.1 dX6_isRoom_4 rfl (lv_at hl 1 rfl) ?_
    refine lv_aload_n S.1 S.2.1 dX6_isRoom_5 rfl (lv_at hl 0 rfl) ?_
    obtain ⟨t2k, h⟩ := gd_some h
    obtain ⟨⟨t2l0, t2s0⟩, ⟨t2l1, t2s1⟩, ⟨t2l2, t2s2⟩, ⟨t2l3, t2s3⟩, t2r0, t2r1, t2r2⟩ := isT_ok t2k
    refine fl_get S hK iX6 rfl lC_0 sC_0 7 (by decide) (hq _ q_131) (fun _ h9 => h9) (fvs_D rfl) hW dX6_isRoom_6 ?_
    refine fl_getN S hK iX5 rfl t2l0 t2s0 4 (by decide) (hN.f 23 rfl) (fun _ h9 => h9) (fvs_I rfl) hW dX6_isRoom_9 ?_
    refine lv_icmp_ge (tgt := 19) S.1 S.2.1 dX6_isRoom_12 (by decide) (fun c3 => ?_) (fun c3 => ?_)
    · replace h := (if_pos c3).symm.trans h
      refine lv_iconst (v := (0 : Int32)) S.1 S.2.1 dX6_isRoom_19 (by decide) ?_
      obtain rfl := s1 h
      exact fl_zret S.1 S.2.1 hr hlocks (Or.inl rfl) hW dX6_isRoom_20
    · replace h := (if_neg c3).symm.trans h
      refine lv_iconst (v := (1 : Int32)) S.1 S.2.1 dX6_isRoom_15 (by decide) ?_
      refine lv_goto (tgt := 20) S.1 S.2.1 dX6_isRoom_16 (by decide) ?_
      obtain rfl := s1 h
      exact fl_zret S.1 S.2.1 hr hlocks (Or.inr rfl) hW dX6_isRoom_20
def fX6_room (p1 : Int32) (p2 : Int32) (M : Mm) : Option (Int32) :=
  bP (fX6_isRoom p1 M) (fun (v2 : Int32) => if v2 = 0 then (some (-1 : Int32)) else (if p2 = (0 : Int32) then (ix p1 6 (some (M.1 4 (p1).toNatClampNeg))) else (if p2 = (1 : Int32) then (bP (fX1_ageOfRoom 3 p1 M) (fun (v9 : Int32) => some v9)) else (if p2 = (2 : Int32) then (ix p1 6 (some (M.1 5 (p1).toNatClampNeg))) else (some (-1 : Int32))))))
set_option maxHeartbeats 4000000 in
set_option maxRecDepth 100000 in
theorem kX6_room (l : Launch) {D : va_G} {cy : Nat → ClassId} {ad : Nat → Nat} (hJ : Inj ad 80)  (p1 : Int32) (p2 : Int32) (M : Mm) (r : Int32) (h : fX6_room p1 p2 M = some r) : Met l yX6_room vX6_room ({ frames := 4, cells := 0, slots := 0, locals := 86 } : Room) (PcF [.ref (ad 0), .int p1, .int p2] D cy ad kdV shC rfC 80 M) (QcI r D cy ad kdV shC rfC 80 M) 0 0 (AV ad 80) := by
  refine Met.ofW (cc := cX6_room) (maxL := 3) (ret := (some .int)) (by decide) rfl ?_
  intro p e s m args below meth c s₁ B hml hv
  obtain ⟨rfl, hP, hK, hN⟩ := hv
  have hr := B.returns
  have hlocks := B.notSynchronized
  have S : CallFix p m c cX6_room 3 s ([.ref (ad 0), .int p1, .int p2] : List Value).toArray vX6_room RX6 := ⟨B.exec, B.bytes, hml, findClass_of_methodNamed B.named, atoms_spec (ws := vX6_room) B.pre⟩
  have hq : ∀ w ∈ GW, w.before ([.ref (ad 0), .int p1, .int p2] : List Value).toArray s = true := fun w h => S.2.2.2.2 w (List.mem_cons_of_mem _ h)
  have hA : ∀ k, k < 80 → AV ad 80 (ad k) := fun k hk => ⟨k, hk, rfl⟩
  have hW : WSt D cy ad kdV shC rfC 80 (AV ad 80) M s.heap s.heap [] := ⟨hP, va_S.rf⟩
  clear hP
  have iX1 : ∀ w ∈ wsX10, w ∈ vX6_room := fun w h => List.mem_cons_of_mem _ (inX1 w h)
  have iX6 : ∀ w ∈ wsX60, w ∈ vX6_room := fun w h => List.mem_cons_of_mem _ (inX6 w h)
  have hl := lv_entry ([.ref (ad 0), .int p1, .int p2]) (n := 3) (Nat.le_of_ble_eq_true rfl)
  rw [lg_entry_eq]
  generalize (lg_sl ([.ref (ad 0), .int p1, .int p2]) ++ List.replicate (3 - (lg_sl ([.ref (ad 0), .int p1, .int p2])).length) Slot.unset).toArray = ls at hl ⊢
  have hl : lv_has ls 3 [(0, .ref (ad 0)), (1, .int p1), (2, .int p2)] := hl
  rw [fX6_room] at h
  refine lv_aload_n S.1 S.2.1 dX6_room_0 rfl (lv_at hl 0 rfl) ?_
  refine lv_iload_n S.1 S.2.1 dX6_room_1 rfl (lv_at hl 1 rfl) ?_
  obtain ⟨v2, u1, h⟩ := bP_some h
  refine fl_doneI (fl_runV S hK hN (kX6_isRoom l hJ p1 M v2 u1) (cwV 1 S.2.2.2.2 (gV q_147 q_148 q_149 q_3 q_146) rfl rfl rfl (by decide +kernel) ⟨Nat.le_of_ble_eq_true rfl, Nat.le_of_ble_eq_true rfl⟩) (ci := 6) rfl lC_0 sC_0 rfl hl.1 rfl (Nat.le_of_ble_eq_true rfl) dX6_room_2 ⟨Nat.zero_le _, Nat.zero_le _⟩ hW) hA hW.2 (fun H locs hW => ?_)
  refine lv_if_ne (tgt := 10) S.1 S.2.1 dX6_room_5 (by decide) (fun c3 => ?_) (fun c3 => ?_)
  · replace h := (if_neg c3).symm.trans h
    refine lv_iload_n S.1 S.2.1 dX6_room_10 rfl (lv_at hl 2 rfl) ?_
    by_cases c4 : p2 = (0 : Int32)
    · replace h := (if_pos c4).symm.trans h
      refine lv_tableIn (off := 25) (tgt := 36) S.1 S.2.1 dX6_room_11 (by rw [c4]; decide) (by rw [c4]; decide) (by rw [c4]; rfl) (by decide) ?_
      refine lv_aload_n S.1 S.2.1 dX6_room_36 rfl (lv_at hl 0 rfl) ?_
      refine fl_get S hK iX6 rfl lC_0 sC_0 1 (by decide) (hq _ q_130) (fun _ h9 => h9) (fvs_R rfl rfl) hW dX6_room_37 ?_
      refine fl_getN S hK iX1 rfl lC_3 sC_3 0 (by decide) (hN.f 2 rfl) (fun _ h9 => h9) (fvs_R rfl rfl) hW dX6_room_40 ?_
      refine lv_iload_n S.1 S.2.1 dX6_room_43 rfl (lv_at hl 1 rfl) ?_
      obtain ⟨g7, h⟩ := ix_some h
      refine fl_iald S hK lC_4 sC_4 g7 hW dX6_room_44 ?_
      obtain rfl := s1 h
      exact fl_iret S.1 S.2.1 hr hlocks hW dX6_room_45
    · replace h := (if_neg c4).symm.trans h
      by_cases c5 : p2 = (1 : Int32)
      · replace h := (if_pos c5).symm.trans h
        refine lv_tableIn (off := 35) (tgt := 46) S.1 S.2.1 dX6_room_11 (by rw [c5]; decide) (by rw [c5]; decide) (by rw [c5]; rfl) (by decide) ?_
        refine lv_aload_n S.1 S.2.1 dX6_room_46 rfl (lv_at hl 0 rfl) ?_
        refine fl_get S hK iX6 rfl lC_0 sC_0 1 (by decide) (hq _ q_130) (fun _ h9 => h9) (fvs_R rfl rfl) hW dX6_room_47 ?_
        refine lv_iload_n S.1 S.2.1 dX6_room_50 rfl (lv_at hl 1 rfl) ?_
        obtain ⟨v9, u8, h⟩ := bP_some h
        refine fl_doneI (fl_runVN S hK hN (kX1_ageOfRoom l hJ 3 (rfl : isM 3 = true) p1 M v9 u8) ⟨va_cnB 1 S.2.2.2.2 (gN q_42) rfl rfl rfl (hN.m 12 rfl) (hq _ q_41) (by decide +kernel) ⟨Nat.le_of_ble_eq_true rfl, Nat.le_of_ble_eq_true rfl⟩, (hq _ q_44), (hq _ q_45)⟩ (ci := 1) rfl lC_3 sC_3 rfl hl.1 rfl (Nat.le_of_ble_eq_true rfl) dX6_room_51 ⟨Nat.zero_le _, Nat.zero_le _⟩ hW) hA hW.2 (fun H locs hW => ?_)
        obtain rfl := s1 h
        exact fl_iret S.1 S.2.1 hr hlocks hW dX6_room_54
      · replace h := (if_neg c5).symm.trans h
        by_cases c6 : p2 = (2 : Int32)
        · replace h := (if_pos c6).symm.trans h
          refine lv_tableIn (off := 44) (tgt := 55) S.1 S.2.1 dX6_room_11 (by rw [c6]; decide) (by rw [c6]; decide) (by rw [c6]; rfl) (by decide) ?_
          refine lv_aload_n S.1 S.2.1 dX6_room_55 rfl (lv_at hl 0 rfl) ?_
          refine fl_get S hK iX6 rfl lC_0 sC_0 1 (by decide) (hq _ q_130) (fun _ h9 => h9) (fvs_R rfl rfl) hW dX6_room_56 ?_
          refine fl_getN S hK iX1 rfl lC_3 sC_3 1 (by decide) (hN.f 3 rfl) (fun _ h9 => h9) (fvs_R rfl rfl) hW dX6_room_59 ?_
          refine lv_iload_n S.1 S.2.1 dX6_room_62 rfl (lv_at hl 1 rfl) ?_
          obtain ⟨g10, h⟩ := ix_some h
          refine fl_iald S hK lC_5 sC_5 g10 hW dX6_room_63 ?_
          obtain rfl := s1 h
          exact fl_iret S.1 S.2.1 hr hlocks hW dX6_room_64
        · replace h := (if_neg c6).symm.trans h
          refine lv_tableOut (tgt := 65) S.1 S.2.1 dX6_room_11 (tsw_out (n := 3) (by decide) (by intro k hk; match k, hk with | 0, _ => exact c4 | 1, _ => exact c5 | 2, _ => exact c6 | k + 3, hk => omega)) (by decide) ?_
          refine lv_iconst (v := (-1 : Int32)) S.1 S.2.1 dX6_room_65 (by decide) ?_
          obtain rfl := s1 h
          exact fl_iret S.1 S.2.1 hr hlocks hW dX6_room_66
  · replace h := (if_pos c3).symm.trans h
    refine lv_iconst (v := (-1 : Int32)) S.1 S.2.1 dX6_room_8 (by decide) ?_
    obtain rfl := s1 h
    exact fl_iret S.1 S.2.1 hr hlocks hW dX6_room_9
def fX6_isMother (p1 : Int32) (M : Mm) : Option (Int32) :=
  if p1 < 0 then (some (0 : Int32)) else (gd (isT (M.1 0 7).toNatClampNeg) (if (M.1 ((M.1 0 7).toNatClampNeg) 5) ≤ p1 then (some (0 : Int32)) else (some (1 : Int32))))
set_option maxHeartbeats 4000000 in
set_option maxRecDepth 100000 in
theorem kX6_isMother (l : Launch) {D : va_G} {cy : Nat → ClassId} {ad : Nat → Nat} (hJ : Inj ad 80)  (p1 : Int32) (M : Mm) (r : Int32) (h : fX6_isMother p1 M = some r) : Met l yX6_isMother vX6_isMother ({ frames := 0, cells := 0, slots := 0, locals := 0 } : Room) (PcF [.ref (ad 0), .int p1] D cy ad kdV shC rfC 80 M) (QcI r D cy ad kdV shC rfC 80 M) 0 0 (AV ad 80) := by
  refine Met.ofW (cc := cX6_isMother) (maxL := 2) (ret := (some .boolean)) (by decide) rfl ?_
  intro p e s m args below meth c s₁ B hml hv
  obtain ⟨rfl, hP, hK, hN⟩ := hv
  have hr := B.returns
  have hlocks := B.notSynchronized
  have S : CallFix p m c cX6_isMother 2 s ([.ref (ad 0), .int p1] : List Value).toArray vX6_isMother RX6 := ⟨B.exec, B.bytes, hml, findClass_of_methodNamed B.named, atoms_spec (ws := vX6_isMother) B.pre⟩
  have hq : ∀ w ∈ GW, w.before ([.ref (ad 0), .int p1] : List Value).toArray s = true := fun w h => S.2.2.2.2 w (List.mem_cons_of_mem _ h)
  have hA : ∀ k, k < 80 → AV ad 80 (ad k) := fun k hk => ⟨k, hk, rfl⟩
  have hW : WSt D cy ad kdV shC rfC 80 (AV ad 80) M s.heap s.heap [] := ⟨hP, va_S.rf⟩
  clear hP
  have iX5 : ∀ w ∈ wsX50, w ∈ vX6_isMother := fun w h => List.mem_cons_of_mem _ (inX5 w h)
  have iX6 : ∀ w ∈ wsX60, w ∈ vX6_isMother := fun w h => List.mem_cons_of_mem _ (inX6 w h)
  have hl := lv_entry ([.ref (ad 0), .int p1]) (n := 2) (Nat.le_of_ble_eq_true rfl)
  rw [lg_entry_eq]
  generalize (lg_sl ([.ref (ad 0), .int p1]) ++ List.replicate (2 - (lg_sl ([.ref (ad 0), .int p1])).length) Slot.unset).toArray = ls at hl ⊢
  have hl : lv_has ls 2 [(0, .ref (ad 0)), (1, .int p1)] := hl
  rw [fX6_isMother] at h
  refine lv_iload_n S.1 S.2.1 dX6_isMother_0 rfl (lv_at hl 1 rfl) ?_
  refine lv_if_lt (tgt := 19) S.1 S.2.1 dX6_isMother_1 (by decide) (fun c1 => ?_) (fun c1 => ?_)
  · replace h := (if_pos c1).symm.trans h
    refine lv_iconst (v := (0 : Int32)) S.1 S.2.1 dX6_isMother_19 (by decide) ?_
    obtain rfl := s1 h
    exact fl_zret S.1 S.2.1 hr hlocks (Or.inl rfl) hW dX6_isMother_20
  · replace h := (if_neg c1).symm.trans h
    refine lv_iload_n S.1 S.2.1 dX6_isMother_4 rfl (lv_at hl 1 rfl) ?_
    refine lv_aload_n S.1 S.2.1 dX6_isMother_5 rfl (lv_at hl 0 rfl) ?_
    obtain ⟨t2k, h⟩ := gd_some h
    obtain ⟨⟨t2l0, t2s0⟩, ⟨t2l1, t2s1⟩, ⟨t2l2, t2s2⟩, ⟨t2l3, t2s3⟩, t2r0, t2r1, t2r2⟩ := isT_ok t2k
    refine fl_get S hK iX6 rfl lC_0 sC_0 7 (by decide) (hq _ q_131) (fun _ h9 => h9) (fvs_D rfl) hW dX6_isMother_6 ?_
    refine fl_getN S hK iX5 rfl t2l0 t2s0 5 (by decide) (hN.f 26 rfl) (fun _ h9 => h9) (fvs_I rfl) hW dX6_isMother_9 ?_
    refine lv_icmp_ge (tgt := 19) S.1 S.2.1 dX6_isMother_12 (by decide) (fun c3 => ?_) (fun c3 => ?_)
    · replace h := (if_pos c3).symm.trans h
      refine lv_iconst (v := (0 : Int32)) S.1 S.2.1 dX6_isMother_19 (by decide) ?_
      obtain rfl := s1 h
      exact fl_zret S.1 S.2.1 hr hlocks (Or.inl rfl) hW dX6_isMother_20
    · replace h := (if_neg c3).symm.trans h
      refine lv_iconst (v := (1 : Int32)) S.1 S.2.1 dX6_isMother_15 (by decide) ?_
      refine lv_goto (tgt := 20) S.1 S.2.1 dX6_isMother_16 (by decide) ?_
      obtain rfl := s1 h
      exact fl_zret S.1 S.2.1 hr hlocks (Or.inr rfl) hW dX6_isMother_20
def fX6_worksOfChild (p1 : Int32) (M : Mm) : Option (Int32) :=
  bP (fX6_has (M.1 3 5) p1) (fun (v2 : Int32) => if v2 = 0 then (some (0 : Int32)) else (gd (isT (M.1 0 7).toNatClampNeg) (ix p1 6 (bP (fX5_worksAt ((M.1 0 7).toNatClampNeg) (M.1 6 (p1).toNatClampNeg) M) (fun (v7 : Int32) => some v7)))))
set_option maxHeartbeats 4000000 in
set_option maxRecDepth 100000 in
theorem kX6_worksOfChild (l : Launch) {D : va_G} {cy : Nat → ClassId} {ad : Nat → Nat} (hJ : Inj ad 80)  (p1 : Int32) (M : Mm) (r : Int32) (h : fX6_worksOfChild p1 M = some r) : Met l yX6_worksOfChild vX6_worksOfChild ({ frames := 3, cells := 0, slots := 0, locals := 67 } : Room) (PcF [.ref (ad 0), .int p1] D cy ad kdV shC rfC 80 M) (QcI r D cy ad kdV shC rfC 80 M) 0 0 (AV ad 80) := by
  refine Met.ofW (cc := cX6_worksOfChild) (maxL := 2) (ret := (some .int)) (by decide) rfl ?_
  intro p e s m args below meth c s₁ B hml hv
  obtain ⟨rfl, hP, hK, hN⟩ := hv
  have hr := B.returns
  have hlocks := B.notSynchronized
  have S : CallFix p m c cX6_worksOfChild 2 s ([.ref (ad 0), .int p1] : List Value).toArray vX6_worksOfChild RX6 := ⟨B.exec, B.bytes, hml, findClass_of_methodNamed B.named, atoms_spec (ws := vX6_worksOfChild) B.pre⟩
  have hq : ∀ w ∈ GW, w.before ([.ref (ad 0), .int p1] : List Value).toArray s = true := fun w h => S.2.2.2.2 w (List.mem_cons_of_mem _ h)
  have hA : ∀ k, k < 80 → AV ad 80 (ad k) := fun k hk => ⟨k, hk, rfl⟩
  have hW : WSt D cy ad kdV shC rfC 80 (AV ad 80) M s.heap s.heap [] := ⟨hP, va_S.rf⟩
  clear hP
  have iX1 : ∀ w ∈ wsX10, w ∈ vX6_worksOfChild := fun w h => List.mem_cons_of_mem _ (inX1 w h)
  have iX6 : ∀ w ∈ wsX60, w ∈ vX6_worksOfChild := fun w h => List.mem_cons_of_mem _ (inX6 w h)
  have hl := lv_entry ([.ref (ad 0), .int p1]) (n := 2) (Nat.le_of_ble_eq_true rfl)
  rw [lg_entry_eq]
  generalize (lg_sl ([.ref (ad 0), .int p1]) ++ List.replicate (2 - (lg_sl ([.ref (ad 0), .int p1])).length) Slot.unset).toArray = ls at hl ⊢
  have hl : lv_has ls 2 [(0, .ref (ad 0)), (1, .int p1)] := hl
  rw [fX6_worksOfChild] at h
  refine lv_aload_n S.1 S.2.1 dX6_worksOfChild_0 rfl (lv_at hl 0 rfl) ?_
  refine fl_get S hK iX6 rfl lC_0 sC_0 1 (by decide) (hq _ q_130) (fun _ h9 => h9) (fvs_R rfl rfl) hW dX6_worksOfChild_1 ?_
  refine fl_getN S hK iX1 rfl lC_3 sC_3 5 (by decide) (hN.f 7 rfl) (fun _ h9 => h9) (fvs_I rfl) hW dX6_worksOfChild_4 ?_
  refine lv_iload_n S.1 S.2.1 dX6_worksOfChild_7 rfl (lv_at hl 1 rfl) ?_
  obtain ⟨v2, u1, h⟩ := bP_some h
  refine fl_doneP (fl_runS S (kX6_has l (M.1 3 5) p1 v2 u1) (va_cwS 2 S.2.2.2.2 (gS q_150 q_6 q_3 q_5) rfl rfl rfl (by decide +kernel) ⟨Nat.le_of_ble_eq_true rfl, Nat.le_of_ble_eq_true rfl⟩) rfl hl.1 rfl (Nat.le_of_ble_eq_true rfl) dX6_worksOfChild_8 ⟨Nat.zero_le _, Nat.zero_le _⟩) hW (fun H locs hW => ?_)
  refine lv_if_eq (tgt := 33) S.1 S.2.1 dX6_worksOfChild_11 (by decide) (fun c3 => ?_) (fun c3 => ?_)
  · replace h := (if_pos c3).symm.trans h
    refine lv_iconst (v := (0 : Int32)) S.1 S.2.1 dX6_worksOfChild_33 (by decide) ?_
    obtain rfl := s1 h
    exact fl_iret S.1 S.2.1 hr hlocks hW dX6_worksOfChild_34
  · replace h := (if_neg c3).symm.trans h
    refine lv_aload_n S.1 S.2.1 dX6_worksOfChild_14 rfl (lv_at hl 0 rfl) ?_
    obtain ⟨t4k, h⟩ := gd_some h
    obtain ⟨⟨t4l0, t4s0⟩, ⟨t4l1, t4s1⟩, ⟨t4l2, t4s2⟩, ⟨t4l3, t4s3⟩, t4r0, t4r1, t4r2⟩ := isT_ok t4k
    refine fl_get S hK iX6 rfl lC_0 sC_0 7 (by decide) (hq _ q_131) (fun _ h9 => h9) (fvs_D rfl) hW dX6_worksOfChild_15 ?_
    refine lv_aload_n S.1 S.2.1 dX6_worksOfChild_18 rfl (lv_at hl 0 rfl) ?_
    refine fl_get S hK iX6 rfl lC_0 sC_0 1 (by decide) (hq _ q_130) (fun _ h9 => h9) (fvs_R rfl rfl) hW dX6_worksOfChild_19 ?_
    refine fl_getN S hK iX1 rfl lC_3 sC_3 2 (by decide) (hN.f 4 rfl) (fun _ h9 => h9) (fvs_R rfl rfl) hW dX6_worksOfChild_22 ?_
    refine lv_iload_n S.1 S.2.1 dX6_worksOfChild_25 rfl (lv_at hl 1 rfl) ?_
    obtain ⟨g5, h⟩ := ix_some h
    refine fl_iald S hK lC_6 sC_6 g5 hW dX6_worksOfChild_26 ?_
    obtain ⟨v7, u6, h⟩ := bP_some h
    refine fl_doneI (fl_runVN S hK hN (kX5_worksAt l hJ ((M.1 0 7).toNatClampNeg) t4k (M.1 6 (p1).toNatClampNeg) M v7 u6) ⟨va_cnB 1 S.2.2.2.2 (gN q_151) rfl rfl rfl (hN.m 14 rfl) (hq _ q_61) (by decide +kernel) ⟨Nat.le_of_ble_eq_true rfl, Nat.le_of_ble_eq_true rfl⟩, (hq _ q_152), (hq _ q_153)⟩ (ci := 5) rfl t4l0 t4s0 rfl hl.1 rfl (Nat.le_of_ble_eq_true rfl) dX6_worksOfChild_27 ⟨Nat.zero_le _, Nat.zero_le _⟩ hW) hA hW.2 (fun H locs hW => ?_)
    refine lv_goto (tgt := 34) S.1 S.2.1 dX6_worksOfChild_30 (by decide) ?_
    obtain rfl := s1 h
    exact fl_iret S.1 S.2.1 hr hlocks hW dX6_worksOfChild_34
def fX6_child (p1 : Int32) (p2 : Int32) (M : Mm) : Option (Int32) :=
  bP (fX6_isMother p1 M) (fun (v2 : Int32) => if v2 = 0 then (some (-1 : Int32)) else (if p2 = (0 : Int32) then (bP (fX6_has (M.1 3 4) p1) (fun (v9 : Int32) => if v9 = 0 then (some (0 : Int32)) else (some (1 : Int32)))) else (if p2 = (1 : Int32) then (bP (fX6_has (M.1 3 5) p1) (fun (v12 : Int32) => if v12 = 0 then (some (0 : Int32)) else (some (1 : Int32)))) else (if p2 = (2 : Int32) then (bP (fX6_has (M.1 3 5) p1) (fun (v15 : Int32) => if v15 = 0 then (some (-9 : Int32)) else (ix p1 6 (some (M.1 6 (p1).toNatClampNeg))))) else (if p2 = (3 : Int32) then (bP (fX6_worksOfChild p1 M) (fun (v19 : Int32) => some v19)) else (some (-1 : Int32)))))))
set_option maxHeartbeats 4000000 in
set_option maxRecDepth 100000 in
theorem kX6_child (l : Launch) {D : va_G} {cy : Nat → ClassId} {ad : Nat → Nat} (hJ : Inj ad 80)  (p1 : Int32) (p2 : Int32) (M : Mm) (r : Int32) (h : fX6_child p1 p2 M = some r) : Met l yX6_child vX6_child ({ frames := 4, cells := 0, slots := 0, locals := 88 } : Room) (PcF [.ref (ad 0), .int p1, .int p2] D cy ad kdV shC rfC 80 M) (QcI r D cy ad kdV shC rfC 80 M) 0 0 (AV ad 80) := by
  refine Met.ofW (cc := cX6_child) (maxL := 3) (ret := (some .int)) (by decide) rfl ?_
  intro p e s m args below meth c s₁ B hml hv
  obtain ⟨rfl, hP, hK, hN⟩ := hv
  have hr := B.returns
  have hlocks := B.notSynchronized
  have S : CallFix p m c cX6_child 3 s ([.ref (ad 0), .int p1, .int p2] : List Value).toArray vX6_child RX6 := ⟨B.exec, B.bytes, hml, findClass_of_methodNamed B.named, atoms_spec (ws := vX6_child) B.pre⟩
  have hq : ∀ w ∈ GW, w.before ([.ref (ad 0), .int p1, .int p2] : List Value).toArray s = true := fun w h => S.2.2.2.2 w (List.mem_cons_of_mem _ h)
  have hA : ∀ k, k < 80 → AV ad 80 (ad k) := fun k hk => ⟨k, hk, rfl⟩
  have hW : WSt D cy ad kdV shC rfC 80 (AV ad 80) M s.heap s.heap [] := ⟨hP, va_S.rf⟩
  clear hP
  have iX1 : ∀ w ∈ wsX10, w ∈ vX6_child := fun w h => List.mem_cons_of_mem _ (inX1 w h)
  have iX6 : ∀ w ∈ wsX60, w ∈ vX6_child := fun w h => List.mem_cons_of_mem _ (inX6 w h)
  have hl := lv_entry ([.ref (ad 0), .int p1, .int p2]) (n := 3) (Nat.le_of_ble_eq_true rfl)
  rw [lg_entry_eq]
  generalize (lg_sl ([.ref (ad 0), .int p1, .int p2]) ++ List.replicate (3 - (lg_sl ([.ref (ad 0), .int p1, .int p2])).length) Slot.unset).toArray = ls at hl ⊢
  have hl : lv_has ls 3 [(0, .ref (ad 0)), (1, .int p1), (2, .int p2)] := hl
  rw [fX6_child] at h
  refine lv_aload_n S.1 S.2.1 dX6_child_0 rfl (lv_at hl 0 rfl) ?_
  refine lv_iload_n S.1 S.2.1 dX6_child_1 rfl (lv_at hl 1 rfl) ?_
  obtain ⟨v2, u1, h⟩ := bP_some h
  refine fl_doneI (fl_runV S hK hN (kX6_isMother l hJ p1 M v2 u1) (cwV 1 S.2.2.2.2 (gV q_155 q_156 q_157 q_3 q_154) rfl rfl rfl (by decide +kernel) ⟨Nat.le_of_ble_eq_true rfl, Nat.le_of_ble_eq_true rfl⟩) (ci := 6) rfl lC_0 sC_0 rfl hl.1 rfl (Nat.le_of_ble_eq_true rfl) dX6_child_2 ⟨Nat.zero_le _, Nat.zero_le _⟩ hW) hA hW.2 (fun H locs hW => ?_)
  refine lv_if_ne (tgt := 10) S.1 S.2.1 dX6_child_5 (by decide) (fun c3 => ?_) (fun c3 => ?_)
  · replace h := (if_neg c3).symm.trans h
    refine lv_iload_n S.1 S.2.1 dX6_child_10 rfl (lv_at hl 2 rfl) ?_
    by_cases c4 : p2 = (0 : Int32)
    · replace h := (if_pos c4).symm.trans h
      refine lv_tableIn (off := 29) (tgt := 40) S.1 S.2.1 dX6_child_11 (by rw [c4]; decide) (by rw [c4]; decide) (by rw [c4]; rfl) (by decide) ?_
      refine lv_aload_n S.1 S.2.1 dX6_child_40 rfl (lv_at hl 0 rfl) ?_
      refine fl_get S hK iX6 rfl lC_0 sC_0 1 (by decide) (hq _ q_130) (fun _ h9 => h9) (fvs_R rfl rfl) hW dX6_child_41 ?_
      refine fl_getN S hK iX1 rfl lC_3 sC_3 4 (by decide) (hN.f 6 rfl) (fun _ h9 => h9) (fvs_I rfl) hW dX6_child_44 ?_
      refine lv_iload_n S.1 S.2.1 dX6_child_47 rfl (lv_at hl 1 rfl) ?_
      obtain ⟨v9, u8, h⟩ := bP_some h
      refine fl_doneP (fl_runS S (kX6_has l (M.1 3 4) p1 v9 u8) (va_cwS 2 S.2.2.2.2 (gS q_150 q_6 q_3 q_5) rfl rfl rfl (by decide +kernel) ⟨Nat.le_of_ble_eq_true rfl, Nat.le_of_ble_eq_true rfl⟩) rfl hl.1 rfl (Nat.le_of_ble_eq_true rfl) dX6_child_48 ⟨Nat.zero_le _, Nat.zero_le _⟩) hW (fun H locs hW => ?_)
      refine lv_if_eq (tgt := 58) S.1 S.2.1 dX6_child_51 (by decide) (fun c10 => ?_) (fun c10 => ?_)
      · replace h := (if_pos c10).symm.trans h
        refine lv_iconst (v := (0 : Int32)) S.1 S.2.1 dX6_child_58 (by decide) ?_
        obtain rfl := s1 h
        exact fl_iret S.1 S.2.1 hr hlocks hW dX6_child_59
      · replace h := (if_neg c10).symm.trans h
        refine lv_iconst (v := (1 : Int32)) S.1 S.2.1 dX6_child_54 (by decide) ?_
        refine lv_goto (tgt := 59) S.1 S.2.1 dX6_child_55 (by decide) ?_
        obtain rfl := s1 h
        exact fl_iret S.1 S.2.1 hr hlocks hW dX6_child_59
    · replace h := (if_neg c4).symm.trans h
      by_cases c5 : p2 = (1 : Int32)
      · replace h := (if_pos c5).symm.trans h
        refine lv_tableIn (off := 49) (tgt := 60) S.1 S.2.1 dX6_child_11 (by rw [c5]; decide) (by rw [c5]; decide) (by rw [c5]; rfl) (by decide) ?_
        refine lv_aload_n S.1 S.2.1 dX6_child_60 rfl (lv_at hl 0 rfl) ?_
        refine fl_get S hK iX6 rfl lC_0 sC_0 1 (by decide) (hq _ q_130) (fun _ h9 => h9) (fvs_R rfl rfl) hW dX6_child_61 ?_
        refine fl_getN S hK iX1 rfl lC_3 sC_3 5 (by decide) (hN.f 7 rfl) (fun _ h9 => h9) (fvs_I rfl) hW dX6_child_64 ?_
        refine lv_iload_n S.1 S.2.1 dX6_child_67 rfl (lv_at hl 1 rfl) ?_
        obtain ⟨v12, u11, h⟩ := bP_some h
        refine fl_doneP (fl_runS S (kX6_has l (M.1 3 5) p1 v12 u11) (va_cwS 2 S.2.2.2.2 (gS q_150 q_6 q_3 q_5) rfl rfl rfl (by decide +kernel) ⟨Nat.le_of_ble_eq_true rfl, Nat.le_of_ble_eq_true rfl⟩) rfl hl.1 rfl (Nat.le_of_ble_eq_true rfl) dX6_child_68 ⟨Nat.zero_le _, Nat.zero_le _⟩) hW (fun H locs hW => ?_)
        refine lv_if_eq (tgt := 78) S.1 S.2.1 dX6_child_71 (by decide) (fun c13 => ?_) (fun c13 => ?_)
        · replace h := (if_pos c13).symm.trans h
          refine lv_iconst (v := (0 : Int32)) S.1 S.2.1 dX6_child_78 (by decide) ?_
          obtain rfl := s1 h
          exact fl_iret S.1 S.2.1 hr hlocks hW dX6_child_79
        · replace h := (if_neg c13).symm.trans h
          refine lv_iconst (v := (1 : Int32)) S.1 S.2.1 dX6_child_74 (by decide) ?_
          refine lv_goto (tgt := 79) S.1 S.2.1 dX6_child_75 (by decide) ?_
          obtain rfl := s1 h
          exact fl_iret S.1 S.2.1 hr hlocks hW dX6_child_79
      · replace h := (if_neg c5).symm.trans h
        by_cases c6 : p2 = (2 : Int32)
        · replace h := (if_pos c6).symm.trans h
          refine lv_tableIn (off := 69) (tgt := 80) S.1 S.2.1 dX6_child_11 (by rw [c6]; decide) (by rw [c6]; decide) (by rw [c6]; rfl) (by decide) ?_
          refine lv_aload_n S.1 S.2.1 dX6_child_80 rfl (lv_at hl 0 rfl) ?_
          refine fl_get S hK iX6 rfl lC_0 sC_0 1 (by decide) (hq _ q_130) (fun _ h9 => h9) (fvs_R rfl rfl) hW dX6_child_81 ?_
          refine fl_getN S hK iX1 rfl lC_3 sC_3 5 (by decide) (hN.f 7 rfl) (fun _ h9 => h9) (fvs_I rfl) hW dX6_child_84 ?_
          refine lv_iload_n S.1 S.2.1 dX6_child_87 rfl (lv_at hl 1 rfl) ?_
          obtain ⟨v15, u14, h⟩ := bP_some h
          refine fl_doneP (fl_runS S (kX6_has l (M.1 3 5) p1 v15 u14) (va_cwS 2 S.2.2.2.2 (gS q_150 q_6 q_3 q_5) rfl rfl rfl (by decide +kernel) ⟨Nat.le_of_ble_eq_true rfl, Nat.le_of_ble_eq_true rfl⟩) rfl hl.1 rfl (Nat.le_of_ble_eq_true rfl) dX6_child_88 ⟨Nat.zero_le _, Nat.zero_le _⟩) hW (fun H locs hW => ?_)
          refine lv_if_eq (tgt := 106) S.1 S.2.1 dX6_child_91 (by decide) (fun c16 => ?_) (fun c16 => ?_)
          · replace h := (if_pos c16).symm.trans h
            refine lv_bipush (v := (-9 : Int32)) S.1 S.2.1 dX6_child_106 (by decide) ?_
            obtain rfl := s1 h
            exact fl_iret S.1 S.2.1 hr hlocks hW dX6_child_108
          · replace h := (if_neg c16).symm.trans h
            refine lv_aload_n S.1 S.2.1 dX6_child_94 rfl (lv_at hl 0 rfl) ?_
            refine fl_get S hK iX6 rfl lC_0 sC_0 1 (by decide) (hq _ q_130) (fun _ h9 => h9) (fvs_R rfl rfl) hW dX6_child_95 ?_
            refine fl_getN S hK iX1 rfl lC_3 sC_3 2 (by decide) (hN.f 4 rfl) (fun _ h9 => h9) (fvs_R rfl rfl) hW dX6_child_98 ?_
            refine lv_iload_n S.1 S.2.1 dX6_child_101 rfl (lv_at hl 1 rfl) ?_
            obtain ⟨g17, h⟩ := ix_some h
            refine fl_iald S hK lC_6 sC_6 g17 hW dX6_child_102 ?_
            refine lv_goto (tgt := 108) S.1 S.2.1 dX6_child_103 (by decide) ?_
            obtain rfl := s1 h
            exact fl_iret S.1 S.2.1 hr hlocks hW dX6_child_108
        · replace h := (if_neg c6).symm.trans h
          by_cases c7 : p2 = (3 : Int32)
          · replace h := (if_pos c7).symm.trans h
            refine lv_tableIn (off := 98) (tgt := 109) S.1 S.2.1 dX6_child_11 (by rw [c7]; decide) (by rw [c7]; decide) (by rw [c7]; rfl) (by decide) ?_
            refine lv_aload_n S.1 S.2.1 dX6_child_109 rfl (lv_at hl 0 rfl) ?_
            refine lv_iload_n S.1 S.2.1 dX6_child_110 rfl (lv_at hl 1 rfl) ?_
            obtain ⟨v19, u18, h⟩ := bP_some h
            refine fl_doneI (fl_runV S hK hN (kX6_worksOfChild l hJ p1 M v19 u18) (cwV 1 S.2.2.2.2 (gV q_159 q_160 q_161 q_3 q_158) rfl rfl rfl (by decide +kernel) ⟨Nat.le_of_ble_eq_true rfl, Nat.le_of_ble_eq_true rfl⟩) (ci := 6) rfl lC_0 sC_0 rfl hl.1 rfl (Nat.le_of_ble_eq_true rfl) dX6_child_111 ⟨Nat.zero_le _, Nat.zero_le _⟩ hW) hA hW.2 (fun H locs hW => ?_)
            obtain rfl := s1 h
            exact fl_iret S.1 S.2.1 hr hlocks hW dX6_child_114
          · replace h := (if_neg c7).symm.trans h
            refine lv_tableOut (tgt := 115) S.1 S.2.1 dX6_child_11 (tsw_out (n := 4) (by decide) (by intro k hk; match k, hk with | 0, _ => exact c4 | 1, _ => exact c5 | 2, _ => exact c6 | 3, _ => exact c7 | k + 4, hk => omega)) (by decide) ?_
            refine lv_iconst (v := (-1 : Int32)) S.1 S.2.1 dX6_child_115 (by decide) ?_
            obtain rfl := s1 h
            exact fl_iret S.1 S.2.1 hr hlocks hW dX6_child_116
  · replace h := (if_pos c3).symm.trans h
    refine lv_iconst (v := (-1 : Int32)) S.1 S.2.1 dX6_child_8 (by decide) ?_
    obtain rfl := s1 h
    exact fl_iret S.1 S.2.1 hr hlocks hW dX6_child_9
def fX6_isWork (p1 : Int32) (M : Mm) : Option (Int32) :=
  if p1 < 0 then (some (0 : Int32)) else (gd (isT (M.1 0 7).toNatClampNeg) (if (M.1 ((M.1 0 7).toNatClampNeg) 6) ≤ p1 then (some (0 : Int32)) else (some (1 : Int32))))
set_option maxHeartbeats 4000000 in
set_option maxRecDepth 100000 in
theorem kX6_isWork (l : Launch) {D : va_G} {cy : Nat → ClassId} {ad : Nat → Nat} (hJ : Inj ad 80)  (p1 : Int32) (M : Mm) (r : Int32) (h : fX6_isWork p1 M = some r) : Met l yX6_isWork vX6_isWork ({ frames := 0, cells := 0, slots := 0, locals := 0 } : Room) (PcF [.ref (ad 0), .int p1] D cy ad kdV shC rfC 80 M) (QcI r D cy ad kdV shC rfC 80 M) 0 0 (AV ad 80) := by
  refine Met.ofW (cc := cX6_isWork) (maxL := 2) (ret := (some .boolean)) (by decide) rfl ?_
  intro p e s m args below meth c s₁ B hml hv
  obtain ⟨rfl, hP, hK, hN⟩ := hv
  have hr := B.returns
  have hlocks := B.notSynchronized
  have S : CallFix p m c cX6_isWork 2 s ([.ref (ad 0), .int p1] : List Value).toArray vX6_isWork RX6 := ⟨B.exec, B.bytes, hml, findClass_of_methodNamed B.named, atoms_spec (ws := vX6_isWork) B.pre⟩
  have hq : ∀ w ∈ GW, w.before ([.ref (ad 0), .int p1] : List Value).toArray s = true := fun w h => S.2.2.2.2 w (List.mem_cons_of_mem _ h)
  have hA : ∀ k, k < 80 → AV ad 80 (ad k) := fun k hk => ⟨k, hk, rfl⟩
  have hW : WSt D cy ad kdV shC rfC 80 (AV ad 80) M s.heap s.heap [] := ⟨hP, va_S.rf⟩
  clear hP
  have iX5 : ∀ w ∈ wsX50, w ∈ vX6_isWork := fun w h => List.mem_cons_of_mem _ (inX5 w h)
  have iX6 : ∀ w ∈ wsX60, w ∈ vX6_isWork := fun w h => List.mem_cons_of_mem _ (inX6 w h)
  have hl := lv_entry ([.ref (ad 0), .int p1]) (n := 2) (Nat.le_of_ble_eq_true rfl)
  rw [lg_entry_eq]
  generalize (lg_sl ([.ref (ad 0), .int p1]) ++ List.replicate (2 - (lg_sl ([.ref (ad 0), .int p1])).length) Slot.unset).toArray = ls at hl ⊢
  have hl : lv_has ls 2 [(0, .ref (ad 0)), (1, .int p1)] := hl
  rw [fX6_isWork] at h
  refine lv_iload_n S.1 S.2.1 dX6_isWork_0 rfl (lv_at hl 1 rfl) ?_
  refine lv_if_lt (tgt := 19) S.1 S.2.1 dX6_isWork_1 (by decide) (fun c1 => ?_) (fun c1 => ?_)
  · replace h := (if_pos c1).symm.trans h
    refine lv_iconst (v := (0 : Int32)) S.1 S.2.1 dX6_isWork_19 (by decide) ?_
    obtain rfl := s1 h
    exact fl_zret S.1 S.2.1 hr hlocks (Or.inl rfl) hW dX6_isWork_20
  · replace h := (if_neg c1).symm.trans h
    refine lv_iload_n S.1 S.2.1 dX6_isWork_4 rfl (lv_at hl 1 rfl) ?_
    refine lv_aload_n S.1 S.2.1 dX6_isWork_5 rfl (lv_at hl 0 rfl) ?_
    obtain ⟨t2k, h⟩ := gd_some h
    obtain ⟨⟨t2l0, t2s0⟩, ⟨t2l1, t2s1⟩, ⟨t2l2, t2s2⟩, ⟨t2l3, t2s3⟩, t2r0, t2r1, t2r2⟩ := isT_ok t2k
    refine fl_get S hK iX6 rfl lC_0 sC_0 7 (by decide) (hq _ q_131) (fun _ h9 => h9) (fvs_D rfl) hW dX6_isWork_6 ?_
    refine fl_getN S hK iX5 rfl t2l0 t2s0 6 (by decide) (hN.f 28 rfl) (fun _ h9 => h9) (fvs_I rfl) hW dX6_isWork_9 ?_
    refine lv_icmp_ge (tgt := 19) S.1 S.2.1 dX6_isWork_12 (by decide) (fun c3 => ?_) (fun c3 => ?_)
    · replace h := (if_pos c3).symm.trans h
      refine lv_iconst (v := (0 : Int32)) S.1 S.2.1 dX6_isWork_19 (by decide) ?_
      obtain rfl := s1 h
      exact fl_zret S.1 S.2.1 hr hlocks (Or.inl rfl) hW dX6_isWork_20
    · replace h := (if_neg c3).symm.trans h
      refine lv_iconst (v := (1 : Int32)) S.1 S.2.1 dX6_isWork_15 (by decide) ?_
      refine lv_goto (tgt := 20) S.1 S.2.1 dX6_isWork_16 (by decide) ?_
      obtain rfl := s1 h
      exact fl_zret S.1 S.2.1 hr hlocks (Or.inr rfl) hW dX6_isWork_20
def fX6_whoCanDo_L5 (p1 : Int32) (p2 : Int32) (M : Mm) : Nat → Int32 → Int32 → Option (Int32 × Int32)
  | 0, _, _ => none
  | n + 1, x3, x4 => gd (isT (M.1 0 7).toNatClampNeg) (if (M.1 ((M.1 0 7).toNatClampNeg) 5) ≤ x4 then (some (x3, x4)) else (bP (fX6_has (M.1 3 5) x4) (fun (v6 : Int32) => if v6 = 0 then (fX6_whoCanDo_L5 p1 p2 M n x3 (x4 + (1 : Int32))) else (ix x4 6 (bP (fX5_does ((M.1 0 7).toNatClampNeg) p1 ((M.1 6 (x4).toNatClampNeg) + p2) M) (fun (v10 : Int32) => if v10 = 0 then (fX6_whoCanDo_L5 p1 p2 M n x3 (x4 + (1 : Int32))) else (bP (fX6_bit x4) (fun (v13 : Int32) => fX6_whoCanDo_L5 p1 p2 M n (x3 ||| v13) (x4 + (1 : Int32))))))))))
def fX6_whoCanDo (p1 : Int32) (p2 : Int32) (M : Mm) : Option (Int32) :=
  b2 (fX6_whoCanDo_L5 p1 p2 M 50000 (0 : Int32) (0 : Int32)) (fun (w1 : Int32) (w2 : Int32) => some w1)
set_option maxHeartbeats 4000000 in
set_option maxRecDepth 100000 in
theorem kX6_whoCanDo (l : Launch) {D : va_G} {cy : Nat → ClassId} {ad : Nat → Nat} (hJ : Inj ad 80)  (p1 : Int32) (p2 : Int32) (M : Mm) (r : Int32) (h : fX6_whoCanDo p1 p2 M = some r) : Met l yX6_whoCanDo vX6_whoCanDo ({ frames := 2, cells := 0, slots := 0, locals := 44 } : Room) (PcF [.ref (ad 0), .int p1, .int p2] D cy ad kdV shC rfC 80 M) (QcI r D cy ad kdV shC rfC 80 M) 0 0 (AV ad 80) := by
  refine Met.ofW (cc := cX6_whoCanDo) (maxL := 5) (ret := (some .int)) (by decide) rfl ?_
  intro p e s m args below meth c s₁ B hml hv
  obtain ⟨rfl, hP, hK, hN⟩ := hv
  have hr := B.returns
  have hlocks := B.notSynchronized
  have S : CallFix p m c cX6_whoCanDo 5 s ([.ref (ad 0), .int p1, .int p2] : List Value).toArray vX6_whoCanDo RX6 := ⟨B.exec, B.bytes, hml, findClass_of_methodNamed B.named, atoms_spec (ws := vX6_whoCanDo) B.pre⟩
  have hq : ∀ w ∈ GW, w.before ([.ref (ad 0), .int p1, .int p2] : List Value).toArray s = true := fun w h => S.2.2.2.2 w (List.mem_cons_of_mem _ h)
  have hA : ∀ k, k < 80 → AV ad 80 (ad k) := fun k hk => ⟨k, hk, rfl⟩
  have hW : WSt D cy ad kdV shC rfC 80 (AV ad 80) M s.heap s.heap [] := ⟨hP, va_S.rf⟩
  clear hP
  have iX1 : ∀ w ∈ wsX10, w ∈ vX6_whoCanDo := fun w h => List.mem_cons_of_mem _ (inX1 w h)
  have iX5 : ∀ w ∈ wsX50, w ∈ vX6_whoCanDo := fun w h => List.mem_cons_of_mem _ (inX5 w h)
  have iX6 : ∀ w ∈ wsX60, w ∈ vX6_whoCanDo := fun w h => List.mem_cons_of_mem _ (inX6 w h)
  have hl := lv_entry ([.ref (ad 0), .int p1, .int p2]) (n := 5) (Nat.le_of_ble_eq_true rfl)
  rw [lg_entry_eq]
  generalize (lg_sl ([.ref (ad 0), .int p1, .int p2]) ++ List.replicate (5 - (lg_sl ([.ref (ad 0), .int p1, .int p2])).length) Slot.unset).toArray = ls at hl ⊢
  have hl : lv_has ls 5 [(0, .ref (ad 0)), (1, .int p1), (2, .int p2)] := hl
  rw [fX6_whoCanDo] at h
  refine lv_iconst (v := (0 : Int32)) S.1 S.2.1 dX6_whoCanDo_0 (by decide) ?_
  refine lv_istore_n (lv' := [(3, .int (0 : Int32)), (0, .ref (ad 0)), (1, .int p1), (2, .int p2)]) S.1 S.2.1 dX6_whoCanDo_1 rfl hl (by decide) rfl (fun ls hl => ?_)
  refine lv_iconst (v := (0 : Int32)) S.1 S.2.1 dX6_whoCanDo_2 (by decide) ?_
  refine lv_istore (lv' := [(4, .int (0 : Int32)), (3, .int (0 : Int32)), (0, .ref (ad 0)), (1, .int p1), (2, .int p2)]) S.1 S.2.1 dX6_whoCanDo_3 hl (by decide) rfl (fun ls hl => ?_)
  have L5 : ∀ (n : Nat) (x3 : Int32) (x4 : Int32) (w1 : Int32) (w2 : Int32), fX6_whoCanDo_L5 p1 p2 M n x3 x4 = some (w1, w2) → ∀ (H : Heap) (locs : List Loc) (ls : Array Slot), lv_has ls 5 [(0, .ref (ad 0)), (1, .int p1), (2, .int p2), (3, .int x3), (4, .int x4)] → WSt D cy ad kdV shC rfC 80 (AV ad 80) M s.heap H locs → (∀ (H : Heap) (locs : List Loc) (ls : Array Slot), lv_has ls 5 [(0, .ref (ad 0)), (1, .int p1), (2, .int p2), (3, .int w1), (4, .int w2)] → WSt D cy ad kdV shC rfC 80 (AV ad 80) M s.heap H locs → W p l e (headSpec vX6_whoCanDo ({ frames := 2, cells := 0, slots := 0, locals := 44 } : Room)).room s m ([.ref (ad 0), .int p1, .int p2] : List Value).toArray below meth c H locs 0 0 (MQ below (QcI r D cy ad kdV shC rfC 80 M) ([.ref (ad 0), .int p1, .int p2] : List Value).toArray s 0 0 (AV ad 80)) (F0 m 69 ls [])) → W p l e (headSpec vX6_whoCanDo ({ frames := 2, cells := 0, slots := 0, locals := 44 } : Room)).room s m ([.ref (ad 0), .int p1, .int p2] : List Value).toArray below meth c H locs 0 0 (MQ below (QcI r D cy ad kdV shC rfC 80 M) ([.ref (ad 0), .int p1, .int p2] : List Value).toArray s 0 0 (AV ad 80)) (F0 m 5 ls []) := by
    intro n
    induction n with
    | zero => intro x3 x4 w1 w2 h; cases h
    | succ n ih =>
      intro x3 x4 w1 w2 h H locs ls hl hW K
      rw [fX6_whoCanDo_L5] at h
      refine lv_iload S.1 S.2.1 dX6_whoCanDo_5 (lv_at hl 4 rfl) ?_
      refine lv_aload_n S.1 S.2.1 dX6_whoCanDo_7 rfl (lv_at hl 0 rfl) ?_
      obtain ⟨t3k, h⟩ := gd_some h
      obtain ⟨⟨t3l0, t3s0⟩, ⟨t3l1, t3s1⟩, ⟨t3l2, t3s2⟩, ⟨t3l3, t3s3⟩, t3r0, t3r1, t3r2⟩ := isT_ok t3k
      refine fl_get S hK iX6 rfl lC_0 sC_0 7 (by decide) (hq _ q_131) (fun _ h9 => h9) (fvs_D rfl) hW dX6_whoCanDo_8 ?_
      refine fl_getN S hK iX5 rfl t3l0 t3s0 5 (by decide) (hN.f 26 rfl) (fun _ h9 => h9) (fvs_I rfl) hW dX6_whoCanDo_11 ?_
      refine lv_icmp_ge (tgt := 69) S.1 S.2.1 dX6_whoCanDo_14 (by decide) (fun c4 => ?_) (fun c4 => ?_)
      · replace h := (if_pos c4).symm.trans h
        obtain ⟨rfl, rfl⟩ := s2 h
        exact K _ _ _ hl hW
      · replace h := (if_neg c4).symm.trans h
        refine lv_aload_n S.1 S.2.1 dX6_whoCanDo_17 rfl (lv_at hl 0 rfl) ?_
        refine fl_get S hK iX6 rfl lC_0 sC_0 1 (by decide) (hq _ q_130) (fun _ h9 => h9) (fvs_R rfl rfl) hW dX6_whoCanDo_18 ?_
        refine fl_getN S hK iX1 rfl lC_3 sC_3 5 (by decide) (hN.f 7 rfl) (fun _ h9 => h9) (fvs_I rfl) hW dX6_whoCanDo_21 ?_
        refine lv_iload S.1 S.2.1 dX6_whoCanDo_24 (lv_at hl 4 rfl) ?_
        obtain ⟨v6, u5, h⟩ := bP_some h
        refine fl_doneP (fl_runS S (kX6_has l (M.1 3 5) x4 v6 u5) (va_cwS 2 S.2.2.2.2 (gS q_150 q_6 q_3 q_5) rfl rfl rfl (by decide +kernel) ⟨Nat.le_of_ble_eq_true rfl, Nat.le_of_ble_eq_true rfl⟩) rfl hl.1 rfl (Nat.le_of_ble_eq_true rfl) dX6_whoCanDo_26 ⟨Nat.zero_le _, Nat.zero_le _⟩) hW (fun H locs hW => ?_)
        refine lv_if_eq (tgt := 63) S.1 S.2.1 dX6_whoCanDo_29 (by decide) (fun c7 => ?_) (fun c7 => ?_)
        · replace h := (if_pos c7).symm.trans h
          refine lv_iinc (v := x4 + (1 : Int32)) (lv' := [(4, .int (x4 + (1 : Int32))), (0, .ref (ad 0)), (1, .int p1), (2, .int p2), (3, .int x3)]) S.1 S.2.1 dX6_whoCanDo_63 hl (k := 4) rfl rfl (by decide) rfl (fun ls hl => ?_)
          refine lv_goto (tgt := 5) S.1 S.2.1 dX6_whoCanDo_66 (by decide) ?_
          exact ih _ _ _ _ h _ _ _ (lv_sub hl [1, 2, 3, 4, 0] rfl) hW K
        · replace h := (if_neg c7).symm.trans h
          refine lv_aload_n S.1 S.2.1 dX6_whoCanDo_32 rfl (lv_at hl 0 rfl) ?_
          refine fl_get S hK iX6 rfl lC_0 sC_0 7 (by decide) (hq _ q_131) (fun _ h9 => h9) (fvs_D rfl) hW dX6_whoCanDo_33 ?_
          refine lv_iload_n S.1 S.2.1 dX6_whoCanDo_36 rfl (lv_at hl 1 rfl) ?_
          refine lv_aload_n S.1 S.2.1 dX6_whoCanDo_37 rfl (lv_at hl 0 rfl) ?_
          refine fl_get S hK iX6 rfl lC_0 sC_0 1 (by decide) (hq _ q_130) (fun _ h9 => h9) (fvs_R rfl rfl) hW dX6_whoCanDo_38 ?_
          refine fl_getN S hK iX1 rfl lC_3 sC_3 2 (by decide) (hN.f 4 rfl) (fun _ h9 => h9) (fvs_R rfl rfl) hW dX6_whoCanDo_41 ?_
          refine lv_iload S.1 S.2.1 dX6_whoCanDo_44 (lv_at hl 4 rfl) ?_
          obtain ⟨g8, h⟩ := ix_some h
          refine fl_iald S hK lC_6 sC_6 g8 hW dX6_whoCanDo_46 ?_
          refine lv_iload_n S.1 S.2.1 dX6_whoCanDo_47 rfl (lv_at hl 2 rfl) ?_
          refine lv_iadd S.1 S.2.1 dX6_whoCanDo_48 ?_
          obtain ⟨v10, u9, h⟩ := bP_some h
          refine fl_doneI (fl_runVN S hK hN (kX5_does l hJ ((M.1 0 7).toNatClampNeg) t3k p1 ((M.1 6 (x4).toNatClampNeg) + p2) M v10 u9) ⟨va_cnB 2 S.2.2.2.2 (gN q_122) rfl rfl rfl (hN.m 16 rfl) (hq _ q_61) (by decide +kernel) ⟨Nat.le_of_ble_eq_true rfl, Nat.le_of_ble_eq_true rfl⟩, (hq _ q_124), (hq _ q_125)⟩ (ci := 5) rfl t3l0 t3s0 rfl hl.1 rfl (Nat.le_of_ble_eq_true rfl) dX6_whoCanDo_49 ⟨Nat.zero_le _, Nat.zero_le _⟩ hW) hA hW.2 (fun H locs hW => ?_)
          refine lv_if_eq (tgt := 63) S.1 S.2.1 dX6_whoCanDo_52 (by decide) (fun c11 => ?_) (fun c11 => ?_)
          · replace h := (if_pos c11).symm.trans h
            refine lv_iinc (v := x4 + (1 : Int32)) (lv' := [(4, .int (x4 + (1 : Int32))), (0, .ref (ad 0)), (1, .int p1), (2, .int p2), (3, .int x3)]) S.1 S.2.1 dX6_whoCanDo_63 hl (k := 4) rfl rfl (by decide) rfl (fun ls hl => ?_)
            refine lv_goto (tgt := 5) S.1 S.2.1 dX6_whoCanDo_66 (by decide) ?_
            exact ih _ _ _ _ h _ _ _ (lv_sub hl [1, 2, 3, 4, 0] rfl) hW K
          · replace h := (if_neg c11).symm.trans h
            refine lv_iload_n S.1 S.2.1 dX6_whoCanDo_55 rfl (lv_at hl 3 rfl) ?_
            refine lv_iload S.1 S.2.1 dX6_whoCanDo_56 (lv_at hl 4 rfl) ?_
            obtain ⟨v13, u12, h⟩ := bP_some h
            refine fl_doneP (fl_runS S (kX6_bit l x4 v13 u12) (va_cwS 1 S.2.2.2.2 (gS q_1 q_2 q_3 q_0) rfl rfl rfl (by decide +kernel) ⟨Nat.le_of_ble_eq_true rfl, Nat.le_of_ble_eq_true rfl⟩) rfl hl.1 rfl (Nat.le_of_ble_eq_true rfl) dX6_whoCanDo_58 ⟨Nat.zero_le _, Nat.zero_le _⟩) hW (fun H locs hW => ?_)
            refine lv_ior S.1 S.2.1 dX6_whoCanDo_61 ?_
            refine lv_istore_n (lv' := [(3, .int (x3 ||| v13)), (0, .ref (ad 0)), (1, .int p1), (2, .int p2), (4, .int x4)]) S.1 S.2.1 dX6_whoCanDo_62 rfl hl (by decide) rfl (fun ls hl => ?_)
            refine lv_iinc (v := x4 + (1 : Int32)) (lv' := [(4, .int (x4 + (1 : Int32))), (3, .int (x3 ||| v13)), (0, .ref (ad 0)), (1, .int p1), (2, .int p2)]) S.1 S.2.1 dX6_whoCanDo_63 hl (k := 4) rfl rfl (by decide) rfl (fun ls hl => ?_)
            refine lv_goto (tgt := 5) S.1 S.2.1 dX6_whoCanDo_66 (by decide) ?_
            exact ih _ _ _ _ h _ _ _ (lv_sub hl [2, 3, 4, 1, 0] rfl) hW K
  obtain ⟨w1, w2, u14, h⟩ := b2_some h
  refine L5 50000 _ _ _ _ u14 _ _ _ (lv_sub hl [2, 3, 4, 1, 0] rfl) hW (fun H locs ls hl hW => ?_)
  clear L5
  refine lv_iload_n S.1 S.2.1 dX6_whoCanDo_69 rfl (lv_at hl 3 rfl) ?_
  obtain rfl := s1 h
  exact fl_iret S.1 S.2.1 hr hlocks hW dX6_whoCanDo_70
def fX6_yearsUntilNobody_L2 (p1 : Int32) (M : Mm) : Nat → Int32 → Option ((Int32) ⊕ (Int32))
  | 0, _ => none
  | n + 1, x2 => if (60 : Int32) < x2 then (some (.inl x2)) else (bP (fX6_whoCanDo p1 x2 M) (fun (v4 : Int32) => if v4 = 0 then (some (.inr x2)) else (fX6_yearsUntilNobody_L2 p1 M n (x2 + (1 : Int32)))))
def fX6_yearsUntilNobody (p1 : Int32) (M : Mm) : Option (Int32) :=
  bS (fX6_yearsUntilNobody_L2 p1 M 50000 (0 : Int32)) (fun o7 => (fun (w1 : Int32) => some (-9 : Int32)) o7) (fun o7 => some o7)
set_option maxHeartbeats 4000000 in
set_option maxRecDepth 100000 in
theorem kX6_yearsUntilNobody (l : Launch) {D : va_G} {cy : Nat → ClassId} {ad : Nat → Nat} (hJ : Inj ad 80)  (p1 : Int32) (M : Mm) (r : Int32) (h : fX6_yearsUntilNobody p1 M = some r) : Met l yX6_yearsUntilNobody vX6_yearsUntilNobody ({ frames := 3, cells := 0, slots := 0, locals := 68 } : Room) (PcF [.ref (ad 0), .int p1] D cy ad kdV shC rfC 80 M) (QcI r D cy ad kdV shC rfC 80 M) 0 0 (AV ad 80) := by
  refine Met.ofW (cc := cX6_yearsUntilNobody) (maxL := 3) (ret := (some .int)) (by decide) rfl ?_
  intro p e s m args below meth c s₁ B hml hv
  obtain ⟨rfl, hP, hK, hN⟩ := hv
  have hr := B.returns
  have hlocks := B.notSynchronized
  have S : CallFix p m c cX6_yearsUntilNobody 3 s ([.ref (ad 0), .int p1] : List Value).toArray vX6_yearsUntilNobody RX6 := ⟨B.exec, B.bytes, hml, findClass_of_methodNamed B.named, atoms_spec (ws := vX6_yearsUntilNobody) B.pre⟩
  have hq : ∀ w ∈ GW, w.before ([.ref (ad 0), .int p1] : List Value).toArray s = true := fun w h => S.2.2.2.2 w (List.mem_cons_of_mem _ h)
  have hA : ∀ k, k < 80 → AV ad 80 (ad k) := fun k hk => ⟨k, hk, rfl⟩
  have hW : WSt D cy ad kdV shC rfC 80 (AV ad 80) M s.heap s.heap [] := ⟨hP, va_S.rf⟩
  clear hP
  have hl := lv_entry ([.ref (ad 0), .int p1]) (n := 3) (Nat.le_of_ble_eq_true rfl)
  rw [lg_entry_eq]
  generalize (lg_sl ([.ref (ad 0), .int p1]) ++ List.replicate (3 - (lg_sl ([.ref (ad 0), .int p1])).length) Slot.unset).toArray = ls at hl ⊢
  have hl : lv_has ls 3 [(0, .ref (ad 0)), (1, .int p1)] := hl
  rw [fX6_yearsUntilNobody] at h
  refine lv_iconst (v := (0 : Int32)) S.1 S.2.1 dX6_yearsUntilNobody_0 (by decide) ?_
  refine lv_istore_n (lv' := [(2, .int (0 : Int32)), (0, .ref (ad 0)), (1, .int p1)]) S.1 S.2.1 dX6_yearsUntilNobody_1 rfl hl (by decide) rfl (fun ls hl => ?_)
  have L2 : ∀ (n : Nat) (x2 : Int32) (o : (Int32) ⊕ (Int32)), fX6_yearsUntilNobody_L2 p1 M n x2 = some o → ∀ (H : Heap) (locs : List Loc) (ls : Array Slot), lv_has ls 3 [(0, .ref (ad 0)), (1, .int p1), (2, .int x2)] → WSt D cy ad kdV shC rfC 80 (AV ad 80) M s.heap H locs → (∀ (w1 : Int32), o = .inl w1 → ∀ (H : Heap) (locs : List Loc) (ls : Array Slot), lv_has ls 3 [(0, .ref (ad 0)), (1, .int p1), (2, .int w1)] → WSt D cy ad kdV shC rfC 80 (AV ad 80) M s.heap H locs → W p l e (headSpec vX6_yearsUntilNobody ({ frames := 3, cells := 0, slots := 0, locals := 68 } : Room)).room s m ([.ref (ad 0), .int p1] : List Value).toArray below meth c H locs 0 0 (MQ below (QcI r D cy ad kdV shC rfC 80 M) ([.ref (ad 0), .int p1] : List Value).toArray s 0 0 (AV ad 80)) (F0 m 25 ls [])) → (∀ (rr : Int32), o = .inr rr → ∀ (H : Heap) (locs : List Loc) (ls : Array Slot) (pc : Nat), WSt D cy ad kdV shC rfC 80 (AV ad 80) M s.heap H locs → decode cX6_yearsUntilNobody pc = .ok (.ireturn, 1) → W p l e (headSpec vX6_yearsUntilNobody ({ frames := 3, cells := 0, slots := 0, locals := 68 } : Room)).room s m ([.ref (ad 0), .int p1] : List Value).toArray below meth c H locs 0 0 (MQ below (QcI r D cy ad kdV shC rfC 80 M) ([.ref (ad 0), .int p1] : List Value).toArray s 0 0 (AV ad 80)) (F0 m pc ls [.int rr])) → W p l e (headSpec vX6_yearsUntilNobody ({ frames := 3, cells := 0, slots := 0, locals := 68 } : Room)).room s m ([.ref (ad 0), .int p1] : List Value).toArray below meth c H locs 0 0 (MQ below (QcI r D cy ad kdV shC rfC 80 M) ([.ref (ad 0), .int p1] : List Value).toArray s 0 0 (AV ad 80)) (F0 m 2 ls []) := by
    intro n
    induction n with
    | zero => intro x2 o h; cases h
    | succ n ih =>
      intro x2 o h H locs ls hl hW K K2
      rw [fX6_yearsUntilNobody_L2] at h
      refine lv_iload_n S.1 S.2.1 dX6_yearsUntilNobody_2 rfl (lv_at hl 2 rfl) ?_
      refine lv_bipush (v := (60 : Int32)) S.1 S.2.1 dX6_yearsUntilNobody_3 (by decide) ?_
      refine lv_icmp_gt (tgt := 25) S.1 S.2.1 dX6_yearsUntilNobody_5 (by decide) (fun c2 => ?_) (fun c2 => ?_)
      · replace h := (if_pos c2).symm.trans h
        exact K _ (Option.some.inj h).symm _ _ _ hl hW
      · replace h := (if_neg c2).symm.trans h
        refine lv_aload_n S.1 S.2.1 dX6_yearsUntilNobody_8 rfl (lv_at hl 0 rfl) ?_
        refine lv_iload_n S.1 S.2.1 dX6_yearsUntilNobody_9 rfl (lv_at hl 1 rfl) ?_
        refine lv_iload_n S.1 S.2.1 dX6_yearsUntilNobody_10 rfl (lv_at hl 2 rfl) ?_
        obtain ⟨v4, u3, h⟩ := bP_some h
        refine fl_doneI (fl_runV S hK hN (kX6_whoCanDo l hJ p1 x2 M v4 u3) (cwV 2 S.2.2.2.2 (gV q_163 q_164 q_165 q_3 q_162) rfl rfl rfl (by decide +kernel) ⟨Nat.le_of_ble_eq_true rfl, Nat.le_of_ble_eq_true rfl⟩) (ci := 6) rfl lC_0 sC_0 rfl hl.1 rfl (Nat.le_of_ble_eq_true rfl) dX6_yearsUntilNobody_11 ⟨Nat.zero_le _, Nat.zero_le _⟩ hW) hA hW.2 (fun H locs hW => ?_)
        refine lv_if_ne (tgt := 19) S.1 S.2.1 dX6_yearsUntilNobody_14 (by decide) (fun c5 => ?_) (fun c5 => ?_)
        · replace h := (if_neg c5).symm.trans h
          refine lv_iinc (v := x2 + (1 : Int32)) (lv' := [(2, .int (x2 + (1 : Int32))), (0, .ref (ad 0)), (1, .int p1)]) S.1 S.2.1 dX6_yearsUntilNobody_19 hl (k := 2) rfl rfl (by decide) rfl (fun ls hl => ?_)
          refine lv_goto (tgt := 2) S.1 S.2.1 dX6_yearsUntilNobody_22 (by decide) ?_
          exact ih _ _ h _ _ _ (lv_sub hl [1, 2, 0] rfl) hW K K2
        · replace h := (if_pos c5).symm.trans h
          refine lv_iload_n S.1 S.2.1 dX6_yearsUntilNobody_17 rfl (lv_at hl 2 rfl) ?_
          exact K2 _ (Option.some.inj h).symm _ _ _ _ hW dX6_yearsUntilNobody_18
  rcases bS_some h with ⟨o7, u6, h⟩ | ⟨o7, u6, h⟩
  · obtain ⟨w1, rfl⟩ : ∃ z, z = o7 := ⟨_, rfl⟩
    refine L2 50000 _ _ u6 _ _ _ (lv_sub hl [1, 2, 0] rfl) hW (fun w1z e H locs ls hl hW => ?_) (fun rr e => by cases e)
    cases e
    refine lv_bipush (v := (-9 : Int32)) S.1 S.2.1 dX6_yearsUntilNobody_25 (by decide) ?_
    obtain rfl := s1 h
    exact fl_iret S.1 S.2.1 hr hlocks hW dX6_yearsUntilNobody_27
  · refine L2 50000 _ _ u6 _ _ _ (lv_sub hl [1, 2, 0] rfl) hW (fun _ e => by cases e) (fun rr e H locs ls pc hW hd => ?_)
    cases e
    obtain rfl := s1 h
    exact fl_iret S.1 S.2.1 hr hlocks hW hd
def fX6_work (p1 : Int32) (p2 : Int32) (M : Mm) : Option (Int32) :=
  bP (fX6_isWork p1 M) (fun (v2 : Int32) => if v2 = 0 then (some (-1 : Int32)) else (if p2 = (0 : Int32) then (gd (isT (M.1 0 7).toNatClampNeg) (ix p1 5 (some (M.1 (((M.1 0 7).toNatClampNeg) + 2) (p1).toNatClampNeg)))) else (if p2 = (1 : Int32) then (gd (isT (M.1 0 7).toNatClampNeg) (ix p1 5 (some (M.1 (((M.1 0 7).toNatClampNeg) + 3) (p1).toNatClampNeg)))) else (if p2 = (2 : Int32) then (bP (fX6_whoCanDo p1 (0 : Int32) M) (fun (v13 : Int32) => some v13)) else (if p2 = (3 : Int32) then (bP (fX6_yearsUntilNobody p1 M) (fun (v15 : Int32) => some v15)) else (some (-1 : Int32)))))))
set_option maxHeartbeats 4000000 in
set_option maxRecDepth 100000 in
theorem kX6_work (l : Launch) {D : va_G} {cy : Nat → ClassId} {ad : Nat → Nat} (hJ : Inj ad 80)  (p1 : Int32) (p2 : Int32) (M : Mm) (r : Int32) (h : fX6_work p1 p2 M = some r) : Met l yX6_work vX6_work ({ frames := 4, cells := 0, slots := 0, locals := 90 } : Room) (PcF [.ref (ad 0), .int p1, .int p2] D cy ad kdV shC rfC 80 M) (QcI r D cy ad kdV shC rfC 80 M) 0 0 (AV ad 80) := by
  refine Met.ofW (cc := cX6_work) (maxL := 3) (ret := (some .int)) (by decide) rfl ?_
  intro p e s m args below meth c s₁ B hml hv
  obtain ⟨rfl, hP, hK, hN⟩ := hv
  have hr := B.returns
  have hlocks := B.notSynchronized
  have S : CallFix p m c cX6_work 3 s ([.ref (ad 0), .int p1, .int p2] : List Value).toArray vX6_work RX6 := ⟨B.exec, B.bytes, hml, findClass_of_methodNamed B.named, atoms_spec (ws := vX6_work) B.pre⟩
  have hq : ∀ w ∈ GW, w.before ([.ref (ad 0), .int p1, .int p2] : List Value).toArray s = true := fun w h => S.2.2.2.2 w (List.mem_cons_of_mem _ h)
  have hA : ∀ k, k < 80 → AV ad 80 (ad k) := fun k hk => ⟨k, hk, rfl⟩
  have hW : WSt D cy ad kdV shC rfC 80 (AV ad 80) M s.heap s.heap [] := ⟨hP, va_S.rf⟩
  clear hP
  have iX5 : ∀ w ∈ wsX50, w ∈ vX6_work := fun w h => List.mem_cons_of_mem _ (inX5 w h)
  have iX6 : ∀ w ∈ wsX60, w ∈ vX6_work := fun w h => List.mem_cons_of_mem _ (inX6 w h)
  have hl := lv_entry ([.ref (ad 0), .int p1, .int p2]) (n := 3) (Nat.le_of_ble_eq_true rfl)
  rw [lg_entry_eq]
  generalize (lg_sl ([.ref (ad 0), .int p1, .int p2]) ++ List.replicate (3 - (lg_sl ([.ref (ad 0), .int p1, .int p2])).length) Slot.unset).toArray = ls at hl ⊢
  have hl : lv_has ls 3 [(0, .ref (ad 0)), (1, .int p1), (2, .int p2)] := hl
  rw [fX6_work] at h
  refine lv_aload_n S.1 S.2.1 dX6_work_0 rfl (lv_at hl 0 rfl) ?_
  refine lv_iload_n S.1 S.2.1 dX6_work_1 rfl (lv_at hl 1 rfl) ?_
  obtain ⟨v2, u1, h⟩ := bP_some h
  refine fl_doneI (fl_runV S hK hN (kX6_isWork l hJ p1 M v2 u1) (cwV 1 S.2.2.2.2 (gV q_167 q_168 q_169 q_3 q_166) rfl rfl rfl (by decide +kernel) ⟨Nat.le_of_ble_eq_true rfl, Nat.le_of_ble_eq_true rfl⟩) (ci := 6) rfl lC_0 sC_0 rfl hl.1 rfl (Nat.le_of_ble_eq_true rfl) dX6_work_2 ⟨Nat.zero_le _, Nat.zero_le _⟩ hW) hA hW.2 (fun H locs hW => ?_)
  refine lv_if_ne (tgt := 10) S.1 S.2.1 dX6_work_5 (by decide) (fun c3 => ?_) (fun c3 => ?_)
  · replace h := (if_neg c3).symm.trans h
    refine lv_iload_n S.1 S.2.1 dX6_work_10 rfl (lv_at hl 2 rfl) ?_
    by_cases c4 : p2 = (0 : Int32)
    · replace h := (if_pos c4).symm.trans h
      refine lv_tableIn (off := 29) (tgt := 40) S.1 S.2.1 dX6_work_11 (by rw [c4]; decide) (by rw [c4]; decide) (by rw [c4]; rfl) (by decide) ?_
      refine lv_aload_n S.1 S.2.1 dX6_work_40 rfl (lv_at hl 0 rfl) ?_
      obtain ⟨t8k, h⟩ := gd_some h
      obtain ⟨⟨t8l0, t8s0⟩, ⟨t8l1, t8s1⟩, ⟨t8l2, t8s2⟩, ⟨t8l3, t8s3⟩, t8r0, t8r1, t8r2⟩ := isT_ok t8k
      refine fl_get S hK iX6 rfl lC_0 sC_0 7 (by decide) (hq _ q_131) (fun _ h9 => h9) (fvs_D rfl) hW dX6_work_41 ?_
      refine fl_getN S hK iX5 rfl t8l0 t8s0 1 (by decide) (hN.f 16 rfl) (fun _ h9 => h9) (fvs_R rfl t8r1) hW dX6_work_44 ?_
      refine lv_iload_n S.1 S.2.1 dX6_work_47 rfl (lv_at hl 1 rfl) ?_
      obtain ⟨g9, h⟩ := ix_some h
      refine fl_iald S hK t8l2 t8s2 g9 hW dX6_work_48 ?_
      obtain rfl := s1 h
      exact fl_iret S.1 S.2.1 hr hlocks hW dX6_work_49
    · replace h := (if_neg c4).symm.trans h
      by_cases c5 : p2 = (1 : Int32)
      · replace h := (if_pos c5).symm.trans h
        refine lv_tableIn (off := 39) (tgt := 50) S.1 S.2.1 dX6_work_11 (by rw [c5]; decide) (by rw [c5]; decide) (by rw [c5]; rfl) (by decide) ?_
        refine lv_aload_n S.1 S.2.1 dX6_work_50 rfl (lv_at hl 0 rfl) ?_
        obtain ⟨t10k, h⟩ := gd_some h
        obtain ⟨⟨t10l0, t10s0⟩, ⟨t10l1, t10s1⟩, ⟨t10l2, t10s2⟩, ⟨t10l3, t10s3⟩, t10r0, t10r1, t10r2⟩ := isT_ok t10k
        refine fl_get S hK iX6 rfl lC_0 sC_0 7 (by decide) (hq _ q_131) (fun _ h9 => h9) (fvs_D rfl) hW dX6_work_51 ?_
        refine fl_getN S hK iX5 rfl t10l0 t10s0 2 (by decide) (hN.f 18 rfl) (fun _ h9 => h9) (fvs_R rfl t10r2) hW dX6_work_54 ?_
        refine lv_iload_n S.1 S.2.1 dX6_work_57 rfl (lv_at hl 1 rfl) ?_
        obtain ⟨g11, h⟩ := ix_some h
        refine fl_iald S hK t10l3 t10s3 g11 hW dX6_work_58 ?_
        obtain rfl := s1 h
        exact fl_iret S.1 S.2.1 hr hlocks hW dX6_work_59
      · replace h := (if_neg c5).symm.trans h
        by_cases c6 : p2 = (2 : Int32)
        · replace h := (if_pos c6).symm.trans h
          refine lv_tableIn (off := 49) (tgt := 60) S.1 S.2.1 dX6_work_11 (by rw [c6]; decide) (by rw [c6]; decide) (by rw [c6]; rfl) (by decide) ?_
          refine lv_aload_n S.1 S.2.1 dX6_work_60 rfl (lv_at hl 0 rfl) ?_
          refine lv_iload_n S.1 S.2.1 dX6_work_61 rfl (lv_at hl 1 rfl) ?_
          refine lv_iconst (v := (0 : Int32)) S.1 S.2.1 dX6_work_62 (by decide) ?_
          obtain ⟨v13, u12, h⟩ := bP_some h
          refine fl_doneI (fl_runV S hK hN (kX6_whoCanDo l hJ p1 (0 : Int32) M v13 u12) (cwV 2 S.2.2.2.2 (gV q_163 q_164 q_165 q_3 q_162) rfl rfl rfl (by decide +kernel) ⟨Nat.le_of_ble_eq_true rfl, Nat.le_of_ble_eq_true rfl⟩) (ci := 6) rfl lC_0 sC_0 rfl hl.1 rfl (Nat.le_of_ble_eq_true rfl) dX6_work_63 ⟨Nat.zero_le _, Nat.zero_le _⟩ hW) hA hW.2 (fun H locs hW => ?_)
          obtain rfl := s1 h
          exact fl_iret S.1 S.2.1 hr hlocks hW dX6_work_66
        · replace h := (if_neg c6).symm.trans h
          by_cases c7 : p2 = (3 : Int32)
          · replace h := (if_pos c7).symm.trans h
            refine lv_tableIn (off := 56) (tgt := 67) S.1 S.2.1 dX6_work_11 (by rw [c7]; decide) (by rw [c7]; decide) (by rw [c7]; rfl) (by decide) ?_
            refine lv_aload_n S.1 S.2.1 dX6_work_67 rfl (lv_at hl 0 rfl) ?_
            refine lv_iload_n S.1 S.2.1 dX6_work_68 rfl (lv_at hl 1 rfl) ?_
            obtain ⟨v15, u14, h⟩ := bP_some h
            refine fl_doneI (fl_runV S hK hN (kX6_yearsUntilNobody l hJ p1 M v15 u14) (cwV 1 S.2.2.2.2 (gV q_171 q_172 q_173 q_3 q_170) rfl rfl rfl (by decide +kernel) ⟨Nat.le_of_ble_eq_true rfl, Nat.le_of_ble_eq_true rfl⟩) (ci := 6) rfl lC_0 sC_0 rfl hl.1 rfl (Nat.le_of_ble_eq_true rfl) dX6_work_69 ⟨Nat.zero_le _, Nat.zero_le _⟩ hW) hA hW.2 (fun H locs hW => ?_)
            obtain rfl := s1 h
            exact fl_iret S.1 S.2.1 hr hlocks hW dX6_work_72
          · replace h := (if_neg c7).symm.trans h
            refine lv_tableOut (tgt := 73) S.1 S.2.1 dX6_work_11 (tsw_out (n := 4) (by decide) (by intro k hk; match k, hk with | 0, _ => exact c4 | 1, _ => exact c5 | 2, _ => exact c6 | 3, _ => exact c7 | k + 4, hk => omega)) (by decide) ?_
            refine lv_iconst (v := (-1 : Int32)) S.1 S.2.1 dX6_work_73 (by decide) ?_
            obtain rfl := s1 h
            exact fl_iret S.1 S.2.1 hr hlocks hW dX6_work_74
  · replace h := (if_pos c3).symm.trans h
    refine lv_iconst (v := (-1 : Int32)) S.1 S.2.1 dX6_work_8 (by decide) ?_
    obtain rfl := s1 h
    exact fl_iret S.1 S.2.1 hr hlocks hW dX6_work_9
def fX6_tellFilling_L30  : Nat → Int32 → Mm → Option (Int32 × Mm)
  | 0, _, _ => none
  | n + 1, x1, Ml => gd (isT (Ml.1 0 7).toNatClampNeg) (if (Ml.1 ((Ml.1 0 7).toNatClampNeg) 5) ≤ x1 then (some (x1, Ml)) else (bP (fX6_worksOfChild x1 Ml) (fun (v12 : Int32) => ix x1 6 (lt (wI Ml 52 (x1).toNatClampNeg v12) (fun (M14 : Mm) => fX6_tellFilling_L30 n (x1 + (1 : Int32)) M14)))))
def fX6_tellFilling (M : Mm) : Option (Mm) :=
  gd (isT (M.1 0 7).toNatClampNeg) (lt (wI M 51 2 (M.1 ((M.1 0 7).toNatClampNeg) 5)) (fun (M2 : Mm) => gd (isT (M2.1 0 7).toNatClampNeg) (lt (wI M2 51 3 (M2.1 ((M2.1 0 7).toNatClampNeg) 6)) (fun (M5 : Mm) => b2 (fX6_tellFilling_L30 50000 (0 : Int32) M5) (fun (w7 : Int32) (M8 : Mm) => some M8)))))
set_option maxHeartbeats 4000000 in
set_option maxRecDepth 100000 in
theorem kX6_tellFilling (l : Launch) {D : va_G} {cy : Nat → ClassId} {ad : Nat → Nat} (hJ : Inj ad 80)   (M : Mm) (M' : Mm) (h : fX6_tellFilling M = some M') : Met l yX6_tellFilling vX6_tellFilling ({ frames := 4, cells := 0, slots := 0, locals := 88 } : Room) (PcF [.ref (ad 0)] D cy ad kdV shC rfC 80 M) (QcV D cy ad kdV shC rfC 80 M') 0 0 (AV ad 80) := by
  refine Met.ofW (cc := cX6_tellFilling) (maxL := 2) (ret := none) (by decide) rfl ?_
  intro p e s m args below meth c s₁ B hml hv
  obtain ⟨rfl, hP, hK, hN⟩ := hv
  have hr := B.returns
  have hlocks := B.notSynchronized
  have S : CallFix p m c cX6_tellFilling 2 s ([.ref (ad 0)] : List Value).toArray vX6_tellFilling RX6 := ⟨B.exec, B.bytes, hml, findClass_of_methodNamed B.named, atoms_spec (ws := vX6_tellFilling) B.pre⟩
  have hq : ∀ w ∈ GW, w.before ([.ref (ad 0)] : List Value).toArray s = true := fun w h => S.2.2.2.2 w (List.mem_cons_of_mem _ h)
  have hA : ∀ k, k < 80 → AV ad 80 (ad k) := fun k hk => ⟨k, hk, rfl⟩
  have hW : WSt D cy ad kdV shC rfC 80 (AV ad 80) M s.heap s.heap [] := ⟨hP, va_S.rf⟩
  clear hP
  have iX0 : ∀ w ∈ wsX00, w ∈ vX6_tellFilling := fun w h => List.mem_cons_of_mem _ (inX0 w h)
  have iX5 : ∀ w ∈ wsX50, w ∈ vX6_tellFilling := fun w h => List.mem_cons_of_mem _ (inX5 w h)
  have iX6 : ∀ w ∈ wsX60, w ∈ vX6_tellFilling := fun w h => List.mem_cons_of_mem _ (inX6 w h)
  have hl := lv_entry ([.ref (ad 0)]) (n := 2) (Nat.le_of_ble_eq_true rfl)
  rw [lg_entry_eq]
  generalize (lg_sl ([.ref (ad 0)]) ++ List.replicate (2 - (lg_sl ([.ref (ad 0)])).length) Slot.unset).toArray = ls at hl ⊢
  have hl : lv_has ls 2 [(0, .ref (ad 0))] := hl
  rw [fX6_tellFilling] at h
  refine lv_aload_n S.1 S.2.1 dX6_tellFilling_0 rfl (lv_at hl 0 rfl) ?_
  refine fl_get S hK iX6 rfl lC_0 sC_0 5 (by decide) (hq _ q_174) (fun _ h9 => h9) (fvs_R rfl rfl) hW dX6_tellFilling_1 ?_
  refine lv_aload_n S.1 S.2.1 dX6_tellFilling_4 rfl (lv_at hl 0 rfl) ?_
  obtain ⟨t1k, h⟩ := gd_some h
  obtain ⟨⟨t1l0, t1s0⟩, ⟨t1l1, t1s1⟩, ⟨t1l2, t1s2⟩, ⟨t1l3, t1s3⟩, t1r0, t1r1, t1r2⟩ := isT_ok t1k
  refine fl_get S hK iX6 rfl lC_0 sC_0 7 (by decide) (hq _ q_131) (fun _ h9 => h9) (fvs_D rfl) hW dX6_tellFilling_5 ?_
  refine fl_getN S hK iX5 rfl t1l0 t1s0 5 (by decide) (hN.f 26 rfl) (fun _ h9 => h9) (fvs_I rfl) hW dX6_tellFilling_8 ?_
  refine fl_putN S hK hJ hA tyX0 tyX0_ok nmX0 iX0 rfl lC_51 sC_51 2 (by decide) (hN.f 10 rfl) (fun _ h9 => h9) rfl (ty := .int) rfl rfl rfl (wI M 51 2 (M.1 ((M.1 0 7).toNatClampNeg) 5)) (by decide) (fvs_setI _ _ _ _ _ _ _ rfl) (fun j _ hj => cof_wI_ne hj) hW dX6_tellFilling_11 (fun H locs hW => ?_)
  obtain ⟨M2, e3, h⟩ := lt_some h
  rw [e3] at hW
  clear e3
  refine lv_aload_n S.1 S.2.1 dX6_tellFilling_14 rfl (lv_at hl 0 rfl) ?_
  refine fl_get S hK iX6 rfl lC_0 sC_0 5 (by decide) (hq _ q_174) (fun _ h9 => h9) (fvs_R rfl rfl) hW dX6_tellFilling_15 ?_
  refine lv_aload_n S.1 S.2.1 dX6_tellFilling_18 rfl (lv_at hl 0 rfl) ?_
  obtain ⟨t4k, h⟩ := gd_some h
  obtain ⟨⟨t4l0, t4s0⟩, ⟨t4l1, t4s1⟩, ⟨t4l2, t4s2⟩, ⟨t4l3, t4s3⟩, t4r0, t4r1, t4r2⟩ := isT_ok t4k
  refine fl_get S hK iX6 rfl lC_0 sC_0 7 (by decide) (hq _ q_131) (fun _ h9 => h9) (fvs_D rfl) hW dX6_tellFilling_19 ?_
  refine fl_getN S hK iX5 rfl t4l0 t4s0 6 (by decide) (hN.f 28 rfl) (fun _ h9 => h9) (fvs_I rfl) hW dX6_tellFilling_22 ?_
  refine fl_putN S hK hJ hA tyX0 tyX0_ok nmX0 iX0 rfl lC_51 sC_51 3 (by decide) (hN.f 11 rfl) (fun _ h9 => h9) rfl (ty := .int) rfl rfl rfl (wI M2 51 3 (M2.1 ((M2.1 0 7).toNatClampNeg) 6)) (by decide) (fvs_setI _ _ _ _ _ _ _ rfl) (fun j _ hj => cof_wI_ne hj) hW dX6_tellFilling_25 (fun H locs hW => ?_)
  obtain ⟨M5, e6, h⟩ := lt_some h
  rw [e6] at hW
  clear e6
  refine lv_iconst (v := (0 : Int32)) S.1 S.2.1 dX6_tellFilling_28 (by decide) ?_
  refine lv_istore_n (lv' := [(1, .int (0 : Int32)), (0, .ref (ad 0))]) S.1 S.2.1 dX6_tellFilling_29 rfl hl (by decide) rfl (fun ls hl => ?_)
  have L30 : ∀ (n : Nat) (x1 : Int32) (Ml : Mm) (w7 : Int32) (M8 : Mm), fX6_tellFilling_L30 n x1 Ml = some (w7, M8) → ∀ (H : Heap) (locs : List Loc) (ls : Array Slot), lv_has ls 2 [(0, .ref (ad 0)), (1, .int x1)] → WSt D cy ad kdV shC rfC 80 (AV ad 80) Ml s.heap H locs → (∀ (H : Heap) (locs : List Loc) (ls : Array Slot), lv_has ls 2 [(0, .ref (ad 0)), (1, .int w7)] → WSt D cy ad kdV shC rfC 80 (AV ad 80) M8 s.heap H locs → W p l e (headSpec vX6_tellFilling ({ frames := 4, cells := 0, slots := 0, locals := 88 } : Room)).room s m ([.ref (ad 0)] : List Value).toArray below meth c H locs 0 0 (MQ below (QcV D cy ad kdV shC rfC 80 M') ([.ref (ad 0)] : List Value).toArray s 0 0 (AV ad 80)) (F0 m 61 ls [])) → W p l e (headSpec vX6_tellFilling ({ frames := 4, cells := 0, slots := 0, locals := 88 } : Room)).room s m ([.ref (ad 0)] : List Value).toArray below meth c H locs 0 0 (MQ below (QcV D cy ad kdV shC rfC 80 M') ([.ref (ad 0)] : List Value).toArray s 0 0 (AV ad 80)) (F0 m 30 ls []) := by
    intro n
    induction n with
    | zero => intro x1 Ml w7 M8 h; cases h
    | succ n ih =>
      intro x1 Ml w7 M8 h H locs ls hl hW K
      rw [fX6_tellFilling_L30] at h
      refine lv_iload_n S.1 S.2.1 dX6_tellFilling_30 rfl (lv_at hl 1 rfl) ?_
      refine lv_aload_n S.1 S.2.1 dX6_tellFilling_31 rfl (lv_at hl 0 rfl) ?_
      obtain ⟨t9k, h⟩ := gd_some h
      obtain ⟨⟨t9l0, t9s0⟩, ⟨t9l1, t9s1⟩, ⟨t9l2, t9s2⟩, ⟨t9l3, t9s3⟩, t9r0, t9r1, t9r2⟩ := isT_ok t9k
      refine fl_get S hK iX6 rfl lC_0 sC_0 7 (by decide) (hq _ q_131) (fun _ h9 => h9) (fvs_D rfl) hW dX6_tellFilling_32 ?_
      refine fl_getN S hK iX5 rfl t9l0 t9s0 5 (by decide) (hN.f 26 rfl) (fun _ h9 => h9) (fvs_I rfl) hW dX6_tellFilling_35 ?_
      refine lv_icmp_ge (tgt := 61) S.1 S.2.1 dX6_tellFilling_38 (by decide) (fun c10 => ?_) (fun c10 => ?_)
      · replace h := (if_pos c10).symm.trans h
        obtain ⟨rfl, rfl⟩ := s2 h
        exact K _ _ _ hl hW
      · replace h := (if_neg c10).symm.trans h
        refine lv_aload_n S.1 S.2.1 dX6_tellFilling_41 rfl (lv_at hl 0 rfl) ?_
        refine fl_get S hK iX6 rfl lC_0 sC_0 5 (by decide) (hq _ q_174) (fun _ h9 => h9) (fvs_R rfl rfl) hW dX6_tellFilling_42 ?_
        refine fl_getN S hK iX0 rfl lC_51 sC_51 0 (by decide) (hN.f 9 rfl) (fun _ h9 => h9) (fvs_R rfl rfl) hW dX6_tellFilling_45 ?_
        refine lv_iload_n S.1 S.2.1 dX6_tellFilling_48 rfl (lv_at hl 1 rfl) ?_
        refine lv_aload_n S.1 S.2.1 dX6_tellFilling_49 rfl (lv_at hl 0 rfl) ?_
        refine lv_iload_n S.1 S.2.1 dX6_tellFilling_50 rfl (lv_at hl 1 rfl) ?_
        obtain ⟨v12, u11, h⟩ := bP_some h
        refine fl_doneI (fl_runV S hK hN (kX6_worksOfChild l hJ x1 Ml v12 u11) (cwV 1 S.2.2.2.2 (gV q_159 q_160 q_161 q_3 q_158) rfl rfl rfl (by decide +kernel) ⟨Nat.le_of_ble_eq_true rfl, Nat.le_of_ble_eq_true rfl⟩) (ci := 6) rfl lC_0 sC_0 rfl hl.1 rfl (Nat.le_of_ble_eq_true rfl) dX6_tellFilling_51 ⟨Nat.zero_le _, Nat.zero_le _⟩ hW) hA hW.2 (fun H locs hW => ?_)
        obtain ⟨g13, h⟩ := ix_some h
        refine fl_iast S hK hJ hA lC_52 sC_52 g13 hW dX6_tellFilling_54 (fun H locs hW => ?_)
        obtain ⟨M14, e15, h⟩ := lt_some h
        rw [e15] at hW
        clear e15
        refine lv_iinc (v := x1 + (1 : Int32)) (lv' := [(1, .int (x1 + (1 : Int32))), (0, .ref (ad 0))]) S.1 S.2.1 dX6_tellFilling_55 hl (k := 1) rfl rfl (by decide) rfl (fun ls hl => ?_)
        refine lv_goto (tgt := 30) S.1 S.2.1 dX6_tellFilling_58 (by decide) ?_
        exact ih _ _ _ _ h _ _ _ (lv_sub hl [1, 0] rfl) hW K
  obtain ⟨w7, M8, u16, h⟩ := b2_some h
  refine L30 50000 _ _ _ _ u16 _ _ _ (lv_sub hl [1, 0] rfl) hW (fun H locs ls hl hW => ?_)
  clear L30
  obtain rfl := s1 h
  exact fl_vret S.1 S.2.1 hr hlocks hW dX6_tellFilling_61
def fX6_mostFilled (M : Mm) : Option (Int32 × Mm) :=
  bP (fX6_tellFilling M) (fun (M2 : Mm) => b2 (fX0_solve M2) (fun (v4 : Int32) (M5 : Mm) => some (v4, M5)))
set_option maxHeartbeats 4000000 in
set_option maxRecDepth 100000 in
theorem kX6_mostFilled (l : Launch) {D : va_G} {cy : Nat → ClassId} {ad : Nat → Nat} (hJ : Inj ad 80)   (M : Mm) (r : Int32) (M' : Mm) (h : fX6_mostFilled M = some (r, M')) : Met l yX6_mostFilled vX6_mostFilled ({ frames := 5, cells := 0, slots := 0, locals := 110 } : Room) (PcF [.ref (ad 0)] D cy ad kdV shC rfC 80 M) (QcI r D cy ad kdV shC rfC 80 M') 0 0 (AV ad 80) := by
  refine Met.ofW (cc := cX6_mostFilled) (maxL := 1) (ret := (some .int)) (by decide) rfl ?_
  intro p e s m args below meth c s₁ B hml hv
  obtain ⟨rfl, hP, hK, hN⟩ := hv
  have hr := B.returns
  have hlocks := B.notSynchronized
  have S : CallFix p m c cX6_mostFilled 1 s ([.ref (ad 0)] : List Value).toArray vX6_mostFilled RX6 := ⟨B.exec, B.bytes, hml, findClass_of_methodNamed B.named, atoms_spec (ws := vX6_mostFilled) B.pre⟩
  have hq : ∀ w ∈ GW, w.before ([.ref (ad 0)] : List Value).toArray s = true := fun w h => S.2.2.2.2 w (List.mem_cons_of_mem _ h)
  have hA : ∀ k, k < 80 → AV ad 80 (ad k) := fun k hk => ⟨k, hk, rfl⟩
  have hW : WSt D cy ad kdV shC rfC 80 (AV ad 80) M s.heap s.heap [] := ⟨hP, va_S.rf⟩
  clear hP
  have iX6 : ∀ w ∈ wsX60, w ∈ vX6_mostFilled := fun w h => List.mem_cons_of_mem _ (inX6 w h)
  have hl := lv_entry ([.ref (ad 0)]) (n := 1) (Nat.le_of_ble_eq_true rfl)
  rw [lg_entry_eq]
  generalize (lg_sl ([.ref (ad 0)]) ++ List.replicate (1 - (lg_sl ([.ref (ad 0)])).length) Slot.unset).toArray = ls at hl ⊢
  have hl : lv_has ls 1 [(0, .ref (ad 0))] := hl
  rw [fX6_mostFilled] at h
  refine lv_aload_n S.1 S.2.1 dX6_mostFilled_0 rfl (lv_at hl 0 rfl) ?_
  obtain ⟨M2, u1, h⟩ := bP_some h
  refine fl_doneV (fl_runV S hK hN (kX6_tellFilling l hJ M M2 u1) (cwV 0 S.2.2.2.2 (gV q_176 q_177 q_178 q_3 q_175) rfl rfl rfl (by decide +kernel) ⟨Nat.le_of_ble_eq_true rfl, Nat.le_of_ble_eq_true rfl⟩) (ci := 6) rfl lC_0 sC_0 rfl hl.1 rfl (Nat.le_of_ble_eq_true rfl) dX6_mostFilled_1 ⟨Nat.zero_le _, Nat.zero_le _⟩ hW) hA hW.2 (fun H locs hW => ?_)
  refine lv_aload_n S.1 S.2.1 dX6_mostFilled_4 rfl (lv_at hl 0 rfl) ?_
  refine fl_get S hK iX6 rfl lC_0 sC_0 5 (by decide) (hq _ q_174) (fun _ h9 => h9) (fvs_R rfl rfl) hW dX6_mostFilled_5 ?_
  obtain ⟨v4, M5, u3, h⟩ := b2_some h
  refine fl_doneI (fl_runVN S hK hN (kX0_solve l hJ M2 v4 M5 u3) ⟨va_cnB 0 S.2.2.2.2 (gN q_179) rfl rfl rfl (hN.m 17 rfl) (hq _ q_13) (by decide +kernel) ⟨Nat.le_of_ble_eq_true rfl, Nat.le_of_ble_eq_true rfl⟩, (hq _ q_180), (hq _ q_181)⟩ (ci := 0) rfl lC_51 sC_51 rfl hl.1 rfl (Nat.le_of_ble_eq_true rfl) dX6_mostFilled_8 ⟨Nat.zero_le _, Nat.zero_le _⟩ hW) hA hW.2 (fun H locs hW => ?_)
  obtain ⟨rfl, rfl⟩ := s2 h
  exact fl_iret S.1 S.2.1 hr hlocks hW dX6_mostFilled_11
def fX6_now (p1 : Int32) (M : Mm) : Option (Int32 × Mm) :=
  if p1 = (0 : Int32) then (some (M.1 3 3, M)) else (if p1 = (1 : Int32) then (some (M.1 3 5, M)) else (if p1 = (2 : Int32) then (some (M.1 3 4, M)) else (if p1 = (3 : Int32) then (b2 (fX6_mostFilled M) (fun (v7 : Int32) (M8 : Mm) => some (v7, M8))) else (if p1 = (4 : Int32) then (some (M.1 7 2, M)) else (some ((-1 : Int32), M))))))
set_option maxHeartbeats 4000000 in
set_option maxRecDepth 100000 in
theorem kX6_now (l : Launch) {D : va_G} {cy : Nat → ClassId} {ad : Nat → Nat} (hJ : Inj ad 80)  (p1 : Int32) (M : Mm) (r : Int32) (M' : Mm) (h : fX6_now p1 M = some (r, M')) : Met l yX6_now vX6_now ({ frames := 6, cells := 0, slots := 0, locals := 130 } : Room) (PcF [.ref (ad 0), .int p1] D cy ad kdV shC rfC 80 M) (QcI r D cy ad kdV shC rfC 80 M') 0 0 (AV ad 80) := by
  refine Met.ofW (cc := cX6_now) (maxL := 2) (ret := (some .int)) (by decide) rfl ?_
  intro p e s m args below meth c s₁ B hml hv
  obtain ⟨rfl, hP, hK, hN⟩ := hv
  have hr := B.returns
  have hlocks := B.notSynchronized
  have S : CallFix p m c cX6_now 2 s ([.ref (ad 0), .int p1] : List Value).toArray vX6_now RX6 := ⟨B.exec, B.bytes, hml, findClass_of_methodNamed B.named, atoms_spec (ws := vX6_now) B.pre⟩
  have hq : ∀ w ∈ GW, w.before ([.ref (ad 0), .int p1] : List Value).toArray s = true := fun w h => S.2.2.2.2 w (List.mem_cons_of_mem _ h)
  have hA : ∀ k, k < 80 → AV ad 80 (ad k) := fun k hk => ⟨k, hk, rfl⟩
  have hW : WSt D cy ad kdV shC rfC 80 (AV ad 80) M s.heap s.heap [] := ⟨hP, va_S.rf⟩
  clear hP
  have iX1 : ∀ w ∈ wsX10, w ∈ vX6_now := fun w h => List.mem_cons_of_mem _ (inX1 w h)
  have iX2 : ∀ w ∈ wsX20, w ∈ vX6_now := fun w h => List.mem_cons_of_mem _ (inX2 w h)
  have iX6 : ∀ w ∈ wsX60, w ∈ vX6_now := fun w h => List.mem_cons_of_mem _ (inX6 w h)
  have hl := lv_entry ([.ref (ad 0), .int p1]) (n := 2) (Nat.le_of_ble_eq_true rfl)
  rw [lg_entry_eq]
  generalize (lg_sl ([.ref (ad 0), .int p1]) ++ List.replicate (2 - (lg_sl ([.ref (ad 0), .int p1])).length) Slot.unset).toArray = ls at hl ⊢
  have hl : lv_has ls 2 [(0, .ref (ad 0)), (1, .int p1)] := hl
  rw [fX6_now] at h
  refine lv_iload_n S.1 S.2.1 dX6_now_0 rfl (lv_at hl 1 rfl) ?_
  by_cases c1 : p1 = (0 : Int32)
  · replace h := (if_pos c1).symm.trans h
    refine lv_tableIn (off := 35) (tgt := 36) S.1 S.2.1 dX6_now_1 (by rw [c1]; decide) (by rw [c1]; decide) (by rw [c1]; rfl) (by decide) ?_
    refine lv_aload_n S.1 S.2.1 dX6_now_36 rfl (lv_at hl 0 rfl) ?_
    refine fl_get S hK iX6 rfl lC_0 sC_0 1 (by decide) (hq _ q_130) (fun _ h9 => h9) (fvs_R rfl rfl) hW dX6_now_37 ?_
    refine fl_getN S hK iX1 rfl lC_3 sC_3 3 (by decide) (hN.f 5 rfl) (fun _ h9 => h9) (fvs_I rfl) hW dX6_now_40 ?_
    obtain ⟨rfl, rfl⟩ := s2 h
    exact fl_iret S.1 S.2.1 hr hlocks hW dX6_now_43
  · replace h := (if_neg c1).symm.trans h
    by_cases c2 : p1 = (1 : Int32)
    · replace h := (if_pos c2).symm.trans h
      refine lv_tableIn (off := 43) (tgt := 44) S.1 S.2.1 dX6_now_1 (by rw [c2]; decide) (by rw [c2]; decide) (by rw [c2]; rfl) (by decide) ?_
      refine lv_aload_n S.1 S.2.1 dX6_now_44 rfl (lv_at hl 0 rfl) ?_
      refine fl_get S hK iX6 rfl lC_0 sC_0 1 (by decide) (hq _ q_130) (fun _ h9 => h9) (fvs_R rfl rfl) hW dX6_now_45 ?_
      refine fl_getN S hK iX1 rfl lC_3 sC_3 5 (by decide) (hN.f 7 rfl) (fun _ h9 => h9) (fvs_I rfl) hW dX6_now_48 ?_
      obtain ⟨rfl, rfl⟩ := s2 h
      exact fl_iret S.1 S.2.1 hr hlocks hW dX6_now_51
    · replace h := (if_neg c2).symm.trans h
      by_cases c3 : p1 = (2 : Int32)
      · replace h := (if_pos c3).symm.trans h
        refine lv_tableIn (off := 51) (tgt := 52) S.1 S.2.1 dX6_now_1 (by rw [c3]; decide) (by rw [c3]; decide) (by rw [c3]; rfl) (by decide) ?_
        refine lv_aload_n S.1 S.2.1 dX6_now_52 rfl (lv_at hl 0 rfl) ?_
        refine fl_get S hK iX6 rfl lC_0 sC_0 1 (by decide) (hq _ q_130) (fun _ h9 => h9) (fvs_R rfl rfl) hW dX6_now_53 ?_
        refine fl_getN S hK iX1 rfl lC_3 sC_3 4 (by decide) (hN.f 6 rfl) (fun _ h9 => h9) (fvs_I rfl) hW dX6_now_56 ?_
        obtain ⟨rfl, rfl⟩ := s2 h
        exact fl_iret S.1 S.2.1 hr hlocks hW dX6_now_59
      · replace h := (if_neg c3).symm.trans h
        by_cases c4 : p1 = (3 : Int32)
        · replace h := (if_pos c4).symm.trans h
          refine lv_tableIn (off := 59) (tgt := 60) S.1 S.2.1 dX6_now_1 (by rw [c4]; decide) (by rw [c4]; decide) (by rw [c4]; rfl) (by decide) ?_
          refine lv_aload_n S.1 S.2.1 dX6_now_60 rfl (lv_at hl 0 rfl) ?_
          obtain ⟨v7, M8, u6, h⟩ := b2_some h
          refine fl_doneI (fl_runV S hK hN (kX6_mostFilled l hJ M v7 M8 u6) (cwV 0 S.2.2.2.2 (gV q_183 q_184 q_185 q_3 q_182) rfl rfl rfl (by decide +kernel) ⟨Nat.le_of_ble_eq_true rfl, Nat.le_of_ble_eq_true rfl⟩) (ci := 6) rfl lC_0 sC_0 rfl hl.1 rfl (Nat.le_of_ble_eq_true rfl) dX6_now_61 ⟨Nat.zero_le _, Nat.zero_le _⟩ hW) hA hW.2 (fun H locs hW => ?_)
          obtain ⟨rfl, rfl⟩ := s2 h
          exact fl_iret S.1 S.2.1 hr hlocks hW dX6_now_64
        · replace h := (if_neg c4).symm.trans h
          by_cases c5 : p1 = (4 : Int32)
          · replace h := (if_pos c5).symm.trans h
            refine lv_tableIn (off := 64) (tgt := 65) S.1 S.2.1 dX6_now_1 (by rw [c5]; decide) (by rw [c5]; decide) (by rw [c5]; rfl) (by decide) ?_
            refine lv_aload_n S.1 S.2.1 dX6_now_65 rfl (lv_at hl 0 rfl) ?_
            refine fl_get S hK iX6 rfl lC_0 sC_0 2 (by decide) (hq _ q_135) (fun _ h9 => h9) (fvs_R rfl rfl) hW dX6_now_66 ?_
            refine fl_getN S hK iX2 rfl lC_7 sC_7 2 (by decide) (hN.f 8 rfl) (fun _ h9 => h9) (fvs_I rfl) hW dX6_now_69 ?_
            obtain ⟨rfl, rfl⟩ := s2 h
            exact fl_iret S.1 S.2.1 hr hlocks hW dX6_now_72
          · replace h := (if_neg c5).symm.trans h
            refine lv_tableOut (tgt := 73) S.1 S.2.1 dX6_now_1 (tsw_out (n := 5) (by decide) (by intro k hk; match k, hk with | 0, _ => exact c1 | 1, _ => exact c2 | 2, _ => exact c3 | 3, _ => exact c4 | 4, _ => exact c5 | k + 5, hk => omega)) (by decide) ?_
            refine lv_iconst (v := (-1 : Int32)) S.1 S.2.1 dX6_now_73 (by decide) ?_
            obtain ⟨rfl, rfl⟩ := s2 h
            exact fl_iret S.1 S.2.1 hr hlocks hW dX6_now_74
def fX6_bears (p1 : Int32) (p2 : Int32) (M : Mm) : Option (Int32 × Mm) :=
  bP (fX6_isMother p1 M) (fun (v2 : Int32) => if v2 = 0 then (some ((-1 : Int32), M)) else (bP (fX6_isRoom p2 M) (fun (v5 : Int32) => if v5 = 0 then (some ((-1 : Int32), M)) else (bP (fX6_has (M.1 3 4) p1) (fun (v8 : Int32) => if v8 = 0 then (bP (fX2_remember 3 M) (fun (M11 : Mm) => gd (isT (M11.1 0 7).toNatClampNeg) (b2 (fX1_bear 3 p1 p2 (M11.1 ((M11.1 0 7).toNatClampNeg) 7) M11) (fun (v14 : Int32) (M15 : Mm) => some (v14, M15))))) else (some ((-2 : Int32), M)))))))
set_option maxHeartbeats 4000000 in
set_option maxRecDepth 100000 in
theorem kX6_bears (l : Launch) {D : va_G} {cy : Nat → ClassId} {ad : Nat → Nat} (hJ : Inj ad 80)  (p1 : Int32) (p2 : Int32) (M : Mm) (r : Int32) (M' : Mm) (h : fX6_bears p1 p2 M = some (r, M')) : Met l yX6_bears vX6_bears ({ frames := 5, cells := 0, slots := 0, locals := 109 } : Room) (PcF [.ref (ad 0), .int p1, .int p2] D cy ad kdV shC rfC 80 M) (QcI r D cy ad kdV shC rfC 80 M') 0 0 (AV ad 80) := by
  refine Met.ofW (cc := cX6_bears) (maxL := 3) (ret := (some .int)) (by decide) rfl ?_
  intro p e s m args below meth c s₁ B hml hv
  obtain ⟨rfl, hP, hK, hN⟩ := hv
  have hr := B.returns
  have hlocks := B.notSynchronized
  have S : CallFix p m c cX6_bears 3 s ([.ref (ad 0), .int p1, .int p2] : List Value).toArray vX6_bears RX6 := ⟨B.exec, B.bytes, hml, findClass_of_methodNamed B.named, atoms_spec (ws := vX6_bears) B.pre⟩
  have hq : ∀ w ∈ GW, w.before ([.ref (ad 0), .int p1, .int p2] : List Value).toArray s = true := fun w h => S.2.2.2.2 w (List.mem_cons_of_mem _ h)
  have hA : ∀ k, k < 80 → AV ad 80 (ad k) := fun k hk => ⟨k, hk, rfl⟩
  have hW : WSt D cy ad kdV shC rfC 80 (AV ad 80) M s.heap s.heap [] := ⟨hP, va_S.rf⟩
  clear hP
  have iX1 : ∀ w ∈ wsX10, w ∈ vX6_bears := fun w h => List.mem_cons_of_mem _ (inX1 w h)
  have iX5 : ∀ w ∈ wsX50, w ∈ vX6_bears := fun w h => List.mem_cons_of_mem _ (inX5 w h)
  have iX6 : ∀ w ∈ wsX60, w ∈ vX6_bears := fun w h => List.mem_cons_of_mem _ (inX6 w h)
  have hl := lv_entry ([.ref (ad 0), .int p1, .int p2]) (n := 3) (Nat.le_of_ble_eq_true rfl)
  rw [lg_entry_eq]
  generalize (lg_sl ([.ref (ad 0), .int p1, .int p2]) ++ List.replicate (3 - (lg_sl ([.ref (ad 0), .int p1, .int p2])).length) Slot.unset).toArray = ls at hl ⊢
  have hl : lv_has ls 3 [(0, .ref (ad 0)), (1, .int p1), (2, .int p2)] := hl
  rw [fX6_bears] at h
  refine lv_aload_n S.1 S.2.1 dX6_bears_0 rfl (lv_at hl 0 rfl) ?_
  refine lv_iload_n S.1 S.2.1 dX6_bears_1 rfl (lv_at hl 1 rfl) ?_
  obtain ⟨v2, u1, h⟩ := bP_some h
  refine fl_doneI (fl_runV S hK hN (kX6_isMother l hJ p1 M v2 u1) (cwV 1 S.2.2.2.2 (gV q_155 q_156 q_157 q_3 q_154) rfl rfl rfl (by decide +kernel) ⟨Nat.le_of_ble_eq_true rfl, Nat.le_of_ble_eq_true rfl⟩) (ci := 6) rfl lC_0 sC_0 rfl hl.1 rfl (Nat.le_of_ble_eq_true rfl) dX6_bears_2 ⟨Nat.zero_le _, Nat.zero_le _⟩ hW) hA hW.2 (fun H locs hW => ?_)
  refine lv_if_eq (tgt := 16) S.1 S.2.1 dX6_bears_5 (by decide) (fun c3 => ?_) (fun c3 => ?_)
  · replace h := (if_pos c3).symm.trans h
    refine lv_iconst (v := (-1 : Int32)) S.1 S.2.1 dX6_bears_16 (by decide) ?_
    obtain ⟨rfl, rfl⟩ := s2 h
    exact fl_iret S.1 S.2.1 hr hlocks hW dX6_bears_17
  · replace h := (if_neg c3).symm.trans h
    refine lv_aload_n S.1 S.2.1 dX6_bears_8 rfl (lv_at hl 0 rfl) ?_
    refine lv_iload_n S.1 S.2.1 dX6_bears_9 rfl (lv_at hl 2 rfl) ?_
    obtain ⟨v5, u4, h⟩ := bP_some h
    refine fl_doneI (fl_runV S hK hN (kX6_isRoom l hJ p2 M v5 u4) (cwV 1 S.2.2.2.2 (gV q_147 q_148 q_149 q_3 q_146) rfl rfl rfl (by decide +kernel) ⟨Nat.le_of_ble_eq_true rfl, Nat.le_of_ble_eq_true rfl⟩) (ci := 6) rfl lC_0 sC_0 rfl hl.1 rfl (Nat.le_of_ble_eq_true rfl) dX6_bears_10 ⟨Nat.zero_le _, Nat.zero_le _⟩ hW) hA hW.2 (fun H locs hW => ?_)
    refine lv_if_ne (tgt := 18) S.1 S.2.1 dX6_bears_13 (by decide) (fun c6 => ?_) (fun c6 => ?_)
    · replace h := (if_neg c6).symm.trans h
      refine lv_aload_n S.1 S.2.1 dX6_bears_18 rfl (lv_at hl 0 rfl) ?_
      refine fl_get S hK iX6 rfl lC_0 sC_0 1 (by decide) (hq _ q_130) (fun _ h9 => h9) (fvs_R rfl rfl) hW dX6_bears_19 ?_
      refine fl_getN S hK iX1 rfl lC_3 sC_3 4 (by decide) (hN.f 6 rfl) (fun _ h9 => h9) (fvs_I rfl) hW dX6_bears_22 ?_
      refine lv_iload_n S.1 S.2.1 dX6_bears_25 rfl (lv_at hl 1 rfl) ?_
      obtain ⟨v8, u7, h⟩ := bP_some h
      refine fl_doneP (fl_runS S (kX6_has l (M.1 3 4) p1 v8 u7) (va_cwS 2 S.2.2.2.2 (gS q_150 q_6 q_3 q_5) rfl rfl rfl (by decide +kernel) ⟨Nat.le_of_ble_eq_true rfl, Nat.le_of_ble_eq_true rfl⟩) rfl hl.1 rfl (Nat.le_of_ble_eq_true rfl) dX6_bears_26 ⟨Nat.zero_le _, Nat.zero_le _⟩) hW (fun H locs hW => ?_)
      refine lv_if_eq (tgt := 35) S.1 S.2.1 dX6_bears_29 (by decide) (fun c9 => ?_) (fun c9 => ?_)
      · replace h := (if_pos c9).symm.trans h
        refine lv_aload_n S.1 S.2.1 dX6_bears_35 rfl (lv_at hl 0 rfl) ?_
        refine fl_get S hK iX6 rfl lC_0 sC_0 2 (by decide) (hq _ q_135) (fun _ h9 => h9) (fvs_R rfl rfl) hW dX6_bears_36 ?_
        refine lv_aload_n S.1 S.2.1 dX6_bears_39 rfl (lv_at hl 0 rfl) ?_
        refine fl_get S hK iX6 rfl lC_0 sC_0 1 (by decide) (hq _ q_130) (fun _ h9 => h9) (fvs_R rfl rfl) hW dX6_bears_40 ?_
        obtain ⟨M11, u10, h⟩ := bP_some h
        refine fl_doneV (fl_runVN S hK hN (kX2_remember l hJ 3 (rfl : isM 3 = true) M M11 u10) ⟨va_cnB 1 S.2.2.2.2 (gN q_186) rfl rfl rfl (hN.m 20 rfl) (hq _ q_187) (by decide +kernel) ⟨Nat.le_of_ble_eq_true rfl, Nat.le_of_ble_eq_true rfl⟩, (hq _ q_188), (hq _ q_189)⟩ (ci := 2) rfl lC_7 sC_7 rfl hl.1 rfl (Nat.le_of_ble_eq_true rfl) dX6_bears_43 ⟨Nat.zero_le _, Nat.zero_le _⟩ hW) hA hW.2 (fun H locs hW => ?_)
        refine lv_aload_n S.1 S.2.1 dX6_bears_46 rfl (lv_at hl 0 rfl) ?_
        refine fl_get S hK iX6 rfl lC_0 sC_0 1 (by decide) (hq _ q_130) (fun _ h9 => h9) (fvs_R rfl rfl) hW dX6_bears_47 ?_
        refine lv_iload_n S.1 S.2.1 dX6_bears_50 rfl (lv_at hl 1 rfl) ?_
        refine lv_iload_n S.1 S.2.1 dX6_bears_51 rfl (lv_at hl 2 rfl) ?_
        refine lv_aload_n S.1 S.2.1 dX6_bears_52 rfl (lv_at hl 0 rfl) ?_
        obtain ⟨t12k, h⟩ := gd_some h
        obtain ⟨⟨t12l0, t12s0⟩, ⟨t12l1, t12s1⟩, ⟨t12l2, t12s2⟩, ⟨t12l3, t12s3⟩, t12r0, t12r1, t12r2⟩ := isT_ok t12k
        refine fl_get S hK iX6 rfl lC_0 sC_0 7 (by decide) (hq _ q_131) (fun _ h9 => h9) (fvs_D rfl) hW dX6_bears_53 ?_
        refine fl_getN S hK iX5 rfl t12l0 t12s0 7 (by decide) (hN.f 31 rfl) (fun _ h9 => h9) (fvs_I rfl) hW dX6_bears_56 ?_
        obtain ⟨v14, M15, u13, h⟩ := b2_some h
        refine fl_doneI (fl_runVN S hK hN (kX1_bear l hJ 3 (rfl : isM 3 = true) p1 p2 (M11.1 ((M11.1 0 7).toNatClampNeg) 7) M11 v14 M15 u13) ⟨va_cnB 3 S.2.2.2.2 (gN q_190) rfl rfl rfl (hN.m 22 rfl) (hq _ q_41) (by decide +kernel) ⟨Nat.le_of_ble_eq_true rfl, Nat.le_of_ble_eq_true rfl⟩, (hq _ q_191), (hq _ q_192)⟩ (ci := 1) rfl lC_3 sC_3 rfl hl.1 rfl (Nat.le_of_ble_eq_true rfl) dX6_bears_59 ⟨Nat.zero_le _, Nat.zero_le _⟩ hW) hA hW.2 (fun H locs hW => ?_)
        obtain ⟨rfl, rfl⟩ := s2 h
        exact fl_iret S.1 S.2.1 hr hlocks hW dX6_bears_62
      · replace h := (if_neg c9).symm.trans h
        refine lv_bipush (v := (-2 : Int32)) S.1 S.2.1 dX6_bears_32 (by decide) ?_
        obtain ⟨rfl, rfl⟩ := s2 h
        exact fl_iret S.1 S.2.1 hr hlocks hW dX6_bears_34
    · replace h := (if_pos c6).symm.trans h
      refine lv_iconst (v := (-1 : Int32)) S.1 S.2.1 dX6_bears_16 (by decide) ?_
      obtain ⟨rfl, rfl⟩ := s2 h
      exact fl_iret S.1 S.2.1 hr hlocks hW dX6_bears_17
def fX6_year (M : Mm) : Option (Int32 × Mm) :=
  if (M.1 3 3) < (99 : Int32) then (bP (fX2_remember 3 M) (fun (M3 : Mm) => gd (isT (M3.1 0 7).toNatClampNeg) (b2 (fX1_passYear 3 ((M3.1 0 7).toNatClampNeg) M3) (fun (v6 : Int32) (M7 : Mm) => some (v6, M7))))) else (some ((-2 : Int32), M))
set_option maxHeartbeats 4000000 in
set_option maxRecDepth 100000 in
theorem kX6_year (l : Launch) {D : va_G} {cy : Nat → ClassId} {ad : Nat → Nat} (hJ : Inj ad 80)   (M : Mm) (r : Int32) (M' : Mm) (h : fX6_year M = some (r, M')) : Met l yX6_year vX6_year ({ frames := 3, cells := 0, slots := 0, locals := 106 } : Room) (PcF [.ref (ad 0)] D cy ad kdV shC rfC 80 M) (QcI r D cy ad kdV shC rfC 80 M') 0 0 (AV ad 80) := by
  refine Met.ofW (cc := cX6_year) (maxL := 1) (ret := (some .int)) (by decide) rfl ?_
  intro p e s m args below meth c s₁ B hml hv
  obtain ⟨rfl, hP, hK, hN⟩ := hv
  have hr := B.returns
  have hlocks := B.notSynchronized
  have S : CallFix p m c cX6_year 1 s ([.ref (ad 0)] : List Value).toArray vX6_year RX6 := ⟨B.exec, B.bytes, hml, findClass_of_methodNamed B.named, atoms_spec (ws := vX6_year) B.pre⟩
  have hq : ∀ w ∈ GW, w.before ([.ref (ad 0)] : List Value).toArray s = true := fun w h => S.2.2.2.2 w (List.mem_cons_of_mem _ h)
  have hA : ∀ k, k < 80 → AV ad 80 (ad k) := fun k hk => ⟨k, hk, rfl⟩
  have hW : WSt D cy ad kdV shC rfC 80 (AV ad 80) M s.heap s.heap [] := ⟨hP, va_S.rf⟩
  clear hP
  have iX1 : ∀ w ∈ wsX10, w ∈ vX6_year := fun w h => List.mem_cons_of_mem _ (inX1 w h)
  have iX6 : ∀ w ∈ wsX60, w ∈ vX6_year := fun w h => List.mem_cons_of_mem _ (inX6 w h)
  have hl := lv_entry ([.ref (ad 0)]) (n := 1) (Nat.le_of_ble_eq_true rfl)
  rw [lg_entry_eq]
  generalize (lg_sl ([.ref (ad 0)]) ++ List.replicate (1 - (lg_sl ([.ref (ad 0)])).length) Slot.unset).toArray = ls at hl ⊢
  have hl : lv_has ls 1 [(0, .ref (ad 0))] := hl
  rw [fX6_year] at h
  refine lv_aload_n S.1 S.2.1 dX6_year_0 rfl (lv_at hl 0 rfl) ?_
  refine fl_get S hK iX6 rfl lC_0 sC_0 1 (by decide) (hq _ q_130) (fun _ h9 => h9) (fvs_R rfl rfl) hW dX6_year_1 ?_
  refine fl_getN S hK iX1 rfl lC_3 sC_3 3 (by decide) (hN.f 5 rfl) (fun _ h9 => h9) (fvs_I rfl) hW dX6_year_4 ?_
  refine lv_bipush (v := (99 : Int32)) S.1 S.2.1 dX6_year_7 (by decide) ?_
  refine lv_icmp_lt (tgt := 15) S.1 S.2.1 dX6_year_9 (by decide) (fun c1 => ?_) (fun c1 => ?_)
  · replace h := (if_pos c1).symm.trans h
    refine lv_aload_n S.1 S.2.1 dX6_year_15 rfl (lv_at hl 0 rfl) ?_
    refine fl_get S hK iX6 rfl lC_0 sC_0 2 (by decide) (hq _ q_135) (fun _ h9 => h9) (fvs_R rfl rfl) hW dX6_year_16 ?_
    refine lv_aload_n S.1 S.2.1 dX6_year_19 rfl (lv_at hl 0 rfl) ?_
    refine fl_get S hK iX6 rfl lC_0 sC_0 1 (by decide) (hq _ q_130) (fun _ h9 => h9) (fvs_R rfl rfl) hW dX6_year_20 ?_
    obtain ⟨M3, u2, h⟩ := bP_some h
    refine fl_doneV (fl_runVN S hK hN (kX2_remember l hJ 3 (rfl : isM 3 = true) M M3 u2) ⟨va_cnB 1 S.2.2.2.2 (gN q_186) rfl rfl rfl (hN.m 20 rfl) (hq _ q_187) (by decide +kernel) ⟨Nat.le_of_ble_eq_true rfl, Nat.le_of_ble_eq_true rfl⟩, (hq _ q_188), (hq _ q_189)⟩ (ci := 2) rfl lC_7 sC_7 rfl hl.1 rfl (Nat.le_of_ble_eq_true rfl) dX6_year_23 ⟨Nat.zero_le _, Nat.zero_le _⟩ hW) hA hW.2 (fun H locs hW => ?_)
    refine lv_aload_n S.1 S.2.1 dX6_year_26 rfl (lv_at hl 0 rfl) ?_
    refine fl_get S hK iX6 rfl lC_0 sC_0 1 (by decide) (hq _ q_130) (fun _ h9 => h9) (fvs_R rfl rfl) hW dX6_year_27 ?_
    refine lv_aload_n S.1 S.2.1 dX6_year_30 rfl (lv_at hl 0 rfl) ?_
    obtain ⟨t4k, h⟩ := gd_some h
    obtain ⟨⟨t4l0, t4s0⟩, ⟨t4l1, t4s1⟩, ⟨t4l2, t4s2⟩, ⟨t4l3, t4s3⟩, t4r0, t4r1, t4r2⟩ := isT_ok t4k
    refine fl_get S hK iX6 rfl lC_0 sC_0 7 (by decide) (hq _ q_131) (fun _ h9 => h9) (fvs_D rfl) hW dX6_year_31 ?_
    obtain ⟨v6, M7, u5, h⟩ := b2_some h
    refine fl_doneI (fl_runVN S hK hN (kX1_passYear l hJ 3 (rfl : isM 3 = true) ((M3.1 0 7).toNatClampNeg) t4k M3 v6 M7 u5) ⟨va_cnB 1 S.2.2.2.2 (gN q_193) rfl rfl rfl (hN.m 23 rfl) (hq _ q_41) (by decide +kernel) ⟨Nat.le_of_ble_eq_true rfl, Nat.le_of_ble_eq_true rfl⟩, (hq _ q_194), (hq _ q_195)⟩ (ci := 1) rfl lC_3 sC_3 rfl hl.1 rfl (Nat.le_of_ble_eq_true rfl) dX6_year_34 ⟨Nat.zero_le _, Nat.zero_le _⟩ hW) hA hW.2 (fun H locs hW => ?_)
    obtain ⟨rfl, rfl⟩ := s2 h
    exact fl_iret S.1 S.2.1 hr hlocks hW dX6_year_37
  · replace h := (if_neg c1).symm.trans h
    refine lv_bipush (v := (-2 : Int32)) S.1 S.2.1 dX6_year_12 (by decide) ?_
    obtain ⟨rfl, rfl⟩ := s2 h
    exact fl_iret S.1 S.2.1 hr hlocks hW dX6_year_14
def fX6_joins (p1 : Int32) (p2 : Int32) (M : Mm) : Option (Int32 × Mm) :=
  bP (fX6_isRoom p1 M) (fun (v2 : Int32) => if v2 = 0 then (some ((-1 : Int32), M)) else (bP (fX6_isRoom p2 M) (fun (v5 : Int32) => if v5 = 0 then (some ((-1 : Int32), M)) else (if p1 = p2 then (some ((-1 : Int32), M)) else (ix p1 6 (bP (fX6_has (M.1 5 (p1).toNatClampNeg) p2) (fun (v10 : Int32) => if v10 = 0 then (bP (fX2_remember 3 M) (fun (M13 : Mm) => bP (fX1_knockThrough 3 p1 p2 M13) (fun (M15 : Mm) => bP (fX1_ageOfRoom 3 p1 M15) (fun (v17 : Int32) => some (v17, M15))))) else (some ((-2 : Int32), M)))))))))
set_option maxHeartbeats 4000000 in
set_option maxRecDepth 100000 in
theorem kX6_joins (l : Launch) {D : va_G} {cy : Nat → ClassId} {ad : Nat → Nat} (hJ : Inj ad 80)  (p1 : Int32) (p2 : Int32) (M : Mm) (r : Int32) (M' : Mm) (h : fX6_joins p1 p2 M = some (r, M')) : Met l yX6_joins vX6_joins ({ frames := 4, cells := 0, slots := 0, locals := 106 } : Room) (PcF [.ref (ad 0), .int p1, .int p2] D cy ad kdV shC rfC 80 M) (QcI r D cy ad kdV shC rfC 80 M') 0 0 (AV ad 80) := by
  refine Met.ofW (cc := cX6_joins) (maxL := 3) (ret := (some .int)) (by decide) rfl ?_
  intro p e s m args below meth c s₁ B hml hv
  obtain ⟨rfl, hP, hK, hN⟩ := hv
  have hr := B.returns
  have hlocks := B.notSynchronized
  have S : CallFix p m c cX6_joins 3 s ([.ref (ad 0), .int p1, .int p2] : List Value).toArray vX6_joins RX6 := ⟨B.exec, B.bytes, hml, findClass_of_methodNamed B.named, atoms_spec (ws := vX6_joins) B.pre⟩
  have hq : ∀ w ∈ GW, w.before ([.ref (ad 0), .int p1, .int p2] : List Value).toArray s = true := fun w h => S.2.2.2.2 w (List.mem_cons_of_mem _ h)
  have hA : ∀ k, k < 80 → AV ad 80 (ad k) := fun k hk => ⟨k, hk, rfl⟩
  have hW : WSt D cy ad kdV shC rfC 80 (AV ad 80) M s.heap s.heap [] := ⟨hP, va_S.rf⟩
  clear hP
  have iX1 : ∀ w ∈ wsX10, w ∈ vX6_joins := fun w h => List.mem_cons_of_mem _ (inX1 w h)
  have iX6 : ∀ w ∈ wsX60, w ∈ vX6_joins := fun w h => List.mem_cons_of_mem _ (inX6 w h)
  have hl := lv_entry ([.ref (ad 0), .int p1, .int p2]) (n := 3) (Nat.le_of_ble_eq_true rfl)
  rw [lg_entry_eq]
  generalize (lg_sl ([.ref (ad 0), .int p1, .int p2]) ++ List.replicate (3 - (lg_sl ([.ref (ad 0), .int p1, .int p2])).length) Slot.unset).toArray = ls at hl ⊢
  have hl : lv_has ls 3 [(0, .ref (ad 0)), (1, .int p1), (2, .int p2)] := hl
  rw [fX6_joins] at h
  refine lv_aload_n S.1 S.2.1 dX6_joins_0 rfl (lv_at hl 0 rfl) ?_
  refine lv_iload_n S.1 S.2.1 dX6_joins_1 rfl (lv_at hl 1 rfl) ?_
  obtain ⟨v2, u1, h⟩ := bP_some h
  refine fl_doneI (fl_runV S hK hN (kX6_isRoom l hJ p1 M v2 u1) (cwV 1 S.2.2.2.2 (gV q_147 q_148 q_149 q_3 q_146) rfl rfl rfl (by decide +kernel) ⟨Nat.le_of_ble_eq_true rfl, Nat.le_of_ble_eq_true rfl⟩) (ci := 6) rfl lC_0 sC_0 rfl hl.1 rfl (Nat.le_of_ble_eq_true rfl) dX6_joins_2 ⟨Nat.zero_le _, Nat.zero_le _⟩ hW) hA hW.2 (fun H locs hW => ?_)
  refine lv_if_eq (tgt := 21) S.1 S.2.1 dX6_joins_5 (by decide) (fun c3 => ?_) (fun c3 => ?_)
  · replace h := (if_pos c3).symm.trans h
    refine lv_iconst (v := (-1 : Int32)) S.1 S.2.1 dX6_joins_21 (by decide) ?_
    obtain ⟨rfl, rfl⟩ := s2 h
    exact fl_iret S.1 S.2.1 hr hlocks hW dX6_joins_22
  · replace h := (if_neg c3).symm.trans h
    refine lv_aload_n S.1 S.2.1 dX6_joins_8 rfl (lv_at hl 0 rfl) ?_
    refine lv_iload_n S.1 S.2.1 dX6_joins_9 rfl (lv_at hl 2 rfl) ?_
    obtain ⟨v5, u4, h⟩ := bP_some h
    refine fl_doneI (fl_runV S hK hN (kX6_isRoom l hJ p2 M v5 u4) (cwV 1 S.2.2.2.2 (gV q_147 q_148 q_149 q_3 q_146) rfl rfl rfl (by decide +kernel) ⟨Nat.le_of_ble_eq_true rfl, Nat.le_of_ble_eq_true rfl⟩) (ci := 6) rfl lC_0 sC_0 rfl hl.1 rfl (Nat.le_of_ble_eq_true rfl) dX6_joins_10 ⟨Nat.zero_le _, Nat.zero_le _⟩ hW) hA hW.2 (fun H locs hW => ?_)
    refine lv_if_eq (tgt := 21) S.1 S.2.1 dX6_joins_13 (by decide) (fun c6 => ?_) (fun c6 => ?_)
    · replace h := (if_pos c6).symm.trans h
      refine lv_iconst (v := (-1 : Int32)) S.1 S.2.1 dX6_joins_21 (by decide) ?_
      obtain ⟨rfl, rfl⟩ := s2 h
      exact fl_iret S.1 S.2.1 hr hlocks hW dX6_joins_22
    · replace h := (if_neg c6).symm.trans h
      refine lv_iload_n S.1 S.2.1 dX6_joins_16 rfl (lv_at hl 1 rfl) ?_
      refine lv_iload_n S.1 S.2.1 dX6_joins_17 rfl (lv_at hl 2 rfl) ?_
      refine lv_icmp_ne (tgt := 23) S.1 S.2.1 dX6_joins_18 (by decide) (fun c7 => ?_) (fun c7 => ?_)
      · replace h := (if_neg c7).symm.trans h
        refine lv_aload_n S.1 S.2.1 dX6_joins_23 rfl (lv_at hl 0 rfl) ?_
        refine fl_get S hK iX6 rfl lC_0 sC_0 1 (by decide) (hq _ q_130) (fun _ h9 => h9) (fvs_R rfl rfl) hW dX6_joins_24 ?_
        refine fl_getN S hK iX1 rfl lC_3 sC_3 1 (by decide) (hN.f 3 rfl) (fun _ h9 => h9) (fvs_R rfl rfl) hW dX6_joins_27 ?_
        refine lv_iload_n S.1 S.2.1 dX6_joins_30 rfl (lv_at hl 1 rfl) ?_
        obtain ⟨g8, h⟩ := ix_some h
        refine fl_iald S hK lC_5 sC_5 g8 hW dX6_joins_31 ?_
        refine lv_iload_n S.1 S.2.1 dX6_joins_32 rfl (lv_at hl 2 rfl) ?_
        obtain ⟨v10, u9, h⟩ := bP_some h
        refine fl_doneP (fl_runS S (kX6_has l (M.1 5 (p1).toNatClampNeg) p2 v10 u9) (va_cwS 2 S.2.2.2.2 (gS q_150 q_6 q_3 q_5) rfl rfl rfl (by decide +kernel) ⟨Nat.le_of_ble_eq_true rfl, Nat.le_of_ble_eq_true rfl⟩) rfl hl.1 rfl (Nat.le_of_ble_eq_true rfl) dX6_joins_33 ⟨Nat.zero_le _, Nat.zero_le _⟩) hW (fun H locs hW => ?_)
        refine lv_if_eq (tgt := 42) S.1 S.2.1 dX6_joins_36 (by decide) (fun c11 => ?_) (fun c11 => ?_)
        · replace h := (if_pos c11).symm.trans h
          refine lv_aload_n S.1 S.2.1 dX6_joins_42 rfl (lv_at hl 0 rfl) ?_
          refine fl_get S hK iX6 rfl lC_0 sC_0 2 (by decide) (hq _ q_135) (fun _ h9 => h9) (fvs_R rfl rfl) hW dX6_joins_43 ?_
          refine lv_aload_n S.1 S.2.1 dX6_joins_46 rfl (lv_at hl 0 rfl) ?_
          refine fl_get S hK iX6 rfl lC_0 sC_0 1 (by decide) (hq _ q_130) (fun _ h9 => h9) (fvs_R rfl rfl) hW dX6_joins_47 ?_
          obtain ⟨M13, u12, h⟩ := bP_some h
          refine fl_doneV (fl_runVN S hK hN (kX2_remember l hJ 3 (rfl : isM 3 = true) M M13 u12) ⟨va_cnB 1 S.2.2.2.2 (gN q_186) rfl rfl rfl (hN.m 20 rfl) (hq _ q_187) (by decide +kernel) ⟨Nat.le_of_ble_eq_true rfl, Nat.le_of_ble_eq_true rfl⟩, (hq _ q_188), (hq _ q_189)⟩ (ci := 2) rfl lC_7 sC_7 rfl hl.1 rfl (Nat.le_of_ble_eq_true rfl) dX6_joins_50 ⟨Nat.zero_le _, Nat.zero_le _⟩ hW) hA hW.2 (fun H locs hW => ?_)
          refine lv_aload_n S.1 S.2.1 dX6_joins_53 rfl (lv_at hl 0 rfl) ?_
          refine fl_get S hK iX6 rfl lC_0 sC_0 1 (by decide) (hq _ q_130) (fun _ h9 => h9) (fvs_R rfl rfl) hW dX6_joins_54 ?_
          refine lv_iload_n S.1 S.2.1 dX6_joins_57 rfl (lv_at hl 1 rfl) ?_
          refine lv_iload_n S.1 S.2.1 dX6_joins_58 rfl (lv_at hl 2 rfl) ?_
          obtain ⟨M15, u14, h⟩ := bP_some h
          refine fl_doneV (fl_runVN S hK hN (kX1_knockThrough l hJ 3 (rfl : isM 3 = true) p1 p2 M13 M15 u14) ⟨va_cnB 2 S.2.2.2.2 (gN q_196) rfl rfl rfl (hN.m 24 rfl) (hq _ q_41) (by decide +kernel) ⟨Nat.le_of_ble_eq_true rfl, Nat.le_of_ble_eq_true rfl⟩, (hq _ q_197), (hq _ q_198)⟩ (ci := 1) rfl lC_3 sC_3 rfl hl.1 rfl (Nat.le_of_ble_eq_true rfl) dX6_joins_59 ⟨Nat.zero_le _, Nat.zero_le _⟩ hW) hA hW.2 (fun H locs hW => ?_)
          refine lv_aload_n S.1 S.2.1 dX6_joins_62 rfl (lv_at hl 0 rfl) ?_
          refine fl_get S hK iX6 rfl lC_0 sC_0 1 (by decide) (hq _ q_130) (fun _ h9 => h9) (fvs_R rfl rfl) hW dX6_joins_63 ?_
          refine lv_iload_n S.1 S.2.1 dX6_joins_66 rfl (lv_at hl 1 rfl) ?_
          obtain ⟨v17, u16, h⟩ := bP_some h
          refine fl_doneI (fl_runVN S hK hN (kX1_ageOfRoom l hJ 3 (rfl : isM 3 = true) p1 M15 v17 u16) ⟨va_cnB 1 S.2.2.2.2 (gN q_42) rfl rfl rfl (hN.m 12 rfl) (hq _ q_41) (by decide +kernel) ⟨Nat.le_of_ble_eq_true rfl, Nat.le_of_ble_eq_true rfl⟩, (hq _ q_44), (hq _ q_45)⟩ (ci := 1) rfl lC_3 sC_3 rfl hl.1 rfl (Nat.le_of_ble_eq_true rfl) dX6_joins_67 ⟨Nat.zero_le _, Nat.zero_le _⟩ hW) hA hW.2 (fun H locs hW => ?_)
          obtain ⟨rfl, rfl⟩ := s2 h
          exact fl_iret S.1 S.2.1 hr hlocks hW dX6_joins_70
        · replace h := (if_neg c11).symm.trans h
          refine lv_bipush (v := (-2 : Int32)) S.1 S.2.1 dX6_joins_39 (by decide) ?_
          obtain ⟨rfl, rfl⟩ := s2 h
          exact fl_iret S.1 S.2.1 hr hlocks hW dX6_joins_41
      · replace h := (if_pos c7).symm.trans h
        refine lv_iconst (v := (-1 : Int32)) S.1 S.2.1 dX6_joins_21 (by decide) ?_
        obtain ⟨rfl, rfl⟩ := s2 h
        exact fl_iret S.1 S.2.1 hr hlocks hW dX6_joins_22
def fX6_builds (p1 : Int32) (M : Mm) : Option (Int32 × Mm) :=
  bP (fX6_isRoom p1 M) (fun (v2 : Int32) => if v2 = 0 then (some ((-1 : Int32), M)) else (ix p1 6 (if (M.1 4 (p1).toNatClampNeg) = 0 then (ix p1 6 (bP (fX6_bit p1) (fun (v8 : Int32) => if (M.1 5 (p1).toNatClampNeg) = v8 then (some ((-2 : Int32), M)) else (bP (fX2_remember 3 M) (fun (M11 : Mm) => bP (fX1_buildAnew 3 p1 M11) (fun (M13 : Mm) => some (M.1 4 (p1).toNatClampNeg, M13))))))) else (bP (fX2_remember 3 M) (fun (M15 : Mm) => bP (fX1_buildAnew 3 p1 M15) (fun (M17 : Mm) => some (M.1 4 (p1).toNatClampNeg, M17)))))))
set_option maxHeartbeats 4000000 in
set_option maxRecDepth 100000 in
theorem kX6_builds (l : Launch) {D : va_G} {cy : Nat → ClassId} {ad : Nat → Nat} (hJ : Inj ad 80)  (p1 : Int32) (M : Mm) (r : Int32) (M' : Mm) (h : fX6_builds p1 M = some (r, M')) : Met l yX6_builds vX6_builds ({ frames := 3, cells := 0, slots := 0, locals := 106 } : Room) (PcF [.ref (ad 0), .int p1] D cy ad kdV shC rfC 80 M) (QcI r D cy ad kdV shC rfC 80 M') 0 0 (AV ad 80) := by
  refine Met.ofW (cc := cX6_builds) (maxL := 3) (ret := (some .int)) (by decide) rfl ?_
  intro p e s m args below meth c s₁ B hml hv
  obtain ⟨rfl, hP, hK, hN⟩ := hv
  have hr := B.returns
  have hlocks := B.notSynchronized
  have S : CallFix p m c cX6_builds 3 s ([.ref (ad 0), .int p1] : List Value).toArray vX6_builds RX6 := ⟨B.exec, B.bytes, hml, findClass_of_methodNamed B.named, atoms_spec (ws := vX6_builds) B.pre⟩
  have hq : ∀ w ∈ GW, w.before ([.ref (ad 0), .int p1] : List Value).toArray s = true := fun w h => S.2.2.2.2 w (List.mem_cons_of_mem _ h)
  have hA : ∀ k, k < 80 → AV ad 80 (ad k) := fun k hk => ⟨k, hk, rfl⟩
  have hW : WSt D cy ad kdV shC rfC 80 (AV ad 80) M s.heap s.heap [] := ⟨hP, va_S.rf⟩
  clear hP
  have iX1 : ∀ w ∈ wsX10, w ∈ vX6_builds := fun w h => List.mem_cons_of_mem _ (inX1 w h)
  have iX6 : ∀ w ∈ wsX60, w ∈ vX6_builds := fun w h => List.mem_cons_of_mem _ (inX6 w h)
  have hl := lv_entry ([.ref (ad 0), .int p1]) (n := 3) (Nat.le_of_ble_eq_true rfl)
  rw [lg_entry_eq]
  generalize (lg_sl ([.ref (ad 0), .int p1]) ++ List.replicate (3 - (lg_sl ([.ref (ad 0), .int p1])).length) Slot.unset).toArray = ls at hl ⊢
  have hl : lv_has ls 3 [(0, .ref (ad 0)), (1, .int p1)] := hl
  rw [fX6_builds] at h
  refine lv_aload_n S.1 S.2.1 dX6_builds_0 rfl (lv_at hl 0 rfl) ?_
  refine lv_iload_n S.1 S.2.1 dX6_builds_1 rfl (lv_at hl 1 rfl) ?_
  obtain ⟨v2, u1, h⟩ := bP_some h
  refine fl_doneI (fl_runV S hK hN (kX6_isRoom l hJ p1 M v2 u1) (cwV 1 S.2.2.2.2 (gV q_147 q_148 q_149 q_3 q_146) rfl rfl rfl (by decide +kernel) ⟨Nat.le_of_ble_eq_true rfl, Nat.le_of_ble_eq_true rfl⟩) (ci := 6) rfl lC_0 sC_0 rfl hl.1 rfl (Nat.le_of_ble_eq_true rfl) dX6_builds_2 ⟨Nat.zero_le _, Nat.zero_le _⟩ hW) hA hW.2 (fun H locs hW => ?_)
  refine lv_if_ne (tgt := 10) S.1 S.2.1 dX6_builds_5 (by decide) (fun c3 => ?_) (fun c3 => ?_)
  · replace h := (if_neg c3).symm.trans h
    refine lv_aload_n S.1 S.2.1 dX6_builds_10 rfl (lv_at hl 0 rfl) ?_
    refine fl_get S hK iX6 rfl lC_0 sC_0 1 (by decide) (hq _ q_130) (fun _ h9 => h9) (fvs_R rfl rfl) hW dX6_builds_11 ?_
    refine fl_getN S hK iX1 rfl lC_3 sC_3 0 (by decide) (hN.f 2 rfl) (fun _ h9 => h9) (fvs_R rfl rfl) hW dX6_builds_14 ?_
    refine lv_iload_n S.1 S.2.1 dX6_builds_17 rfl (lv_at hl 1 rfl) ?_
    obtain ⟨g4, h⟩ := ix_some h
    refine fl_iald S hK lC_4 sC_4 g4 hW dX6_builds_18 ?_
    refine lv_istore_n (lv' := [(2, .int (M.1 4 (p1).toNatClampNeg)), (0, .ref (ad 0)), (1, .int p1)]) S.1 S.2.1 dX6_builds_19 rfl hl (by decide) rfl (fun ls hl => ?_)
    refine lv_iload_n S.1 S.2.1 dX6_builds_20 rfl (lv_at hl 0 rfl) ?_
    refine lv_if_ne (tgt := 43) S.1 S.2.1 dX6_builds_21 (by decide) (fun c5 => ?_) (fun c5 => ?_)
    · replace h := (if_neg c5).symm.trans h
      refine lv_aload_n S.1 S.2.1 dX6_builds_43 rfl (lv_at hl 1 rfl) ?_
      refine fl_get S hK iX6 rfl lC_0 sC_0 2 (by decide) (hq _ q_135) (fun _ h9 => h9) (fvs_R rfl rfl) hW dX6_builds_44 ?_
      refine lv_aload_n S.1 S.2.1 dX6_builds_47 rfl (lv_at hl 1 rfl) ?_
      refine fl_get S hK iX6 rfl lC_0 sC_0 1 (by decide) (hq _ q_130) (fun _ h9 => h9) (fvs_R rfl rfl) hW dX6_builds_48 ?_
      obtain ⟨M15, u14, h⟩ := bP_some h
      refine fl_doneV (fl_runVN S hK hN (kX2_remember l hJ 3 (rfl : isM 3 = true) M M15 u14) ⟨va_cnB 1 S.2.2.2.2 (gN q_186) rfl rfl rfl (hN.m 20 rfl) (hq _ q_187) (by decide +kernel) ⟨Nat.le_of_ble_eq_true rfl, Nat.le_of_ble_eq_true rfl⟩, (hq _ q_188), (hq _ q_189)⟩ (ci := 2) rfl lC_7 sC_7 rfl hl.1 rfl (Nat.le_of_ble_eq_true rfl) dX6_builds_51 ⟨Nat.zero_le _, Nat.zero_le _⟩ hW) hA hW.2 (fun H locs hW => ?_)
      refine lv_aload_n S.1 S.2.1 dX6_builds_54 rfl (lv_at hl 1 rfl) ?_
      refine fl_get S hK iX6 rfl lC_0 sC_0 1 (by decide) (hq _ q_130) (fun _ h9 => h9) (fvs_R rfl rfl) hW dX6_builds_55 ?_
      refine lv_iload_n S.1 S.2.1 dX6_builds_58 rfl (lv_at hl 2 rfl) ?_
      obtain ⟨M17, u16, h⟩ := bP_some h
      refine fl_doneV (fl_runVN S hK hN (kX1_buildAnew l hJ 3 (rfl : isM 3 = true) p1 M15 M17 u16) ⟨va_cnB 1 S.2.2.2.2 (gN q_199) rfl rfl rfl (hN.m 25 rfl) (hq _ q_41) (by decide +kernel) ⟨Nat.le_of_ble_eq_true rfl, Nat.le_of_ble_eq_true rfl⟩, (hq _ q_200), (hq _ q_201)⟩ (ci := 1) rfl lC_3 sC_3 rfl hl.1 rfl (Nat.le_of_ble_eq_true rfl) dX6_builds_59 ⟨Nat.zero_le _, Nat.zero_le _⟩ hW) hA hW.2 (fun H locs hW => ?_)
      refine lv_iload_n S.1 S.2.1 dX6_builds_62 rfl (lv_at hl 0 rfl) ?_
      obtain ⟨rfl, rfl⟩ := s2 h
      exact fl_iret S.1 S.2.1 hr hlocks hW dX6_builds_63
    · replace h := (if_pos c5).symm.trans h
      refine lv_aload_n S.1 S.2.1 dX6_builds_24 rfl (lv_at hl 1 rfl) ?_
      refine fl_get S hK iX6 rfl lC_0 sC_0 1 (by decide) (hq _ q_130) (fun _ h9 => h9) (fvs_R rfl rfl) hW dX6_builds_25 ?_
      refine fl_getN S hK iX1 rfl lC_3 sC_3 1 (by decide) (hN.f 3 rfl) (fun _ h9 => h9) (fvs_R rfl rfl) hW dX6_builds_28 ?_
      refine lv_iload_n S.1 S.2.1 dX6_builds_31 rfl (lv_at hl 2 rfl) ?_
      obtain ⟨g6, h⟩ := ix_some h
      refine fl_iald S hK lC_5 sC_5 g6 hW dX6_builds_32 ?_
      refine lv_iload_n S.1 S.2.1 dX6_builds_33 rfl (lv_at hl 2 rfl) ?_
      obtain ⟨v8, u7, h⟩ := bP_some h
      refine fl_doneP (fl_runS S (kX6_bit l p1 v8 u7) (va_cwS 1 S.2.2.2.2 (gS q_1 q_2 q_3 q_0) rfl rfl rfl (by decide +kernel) ⟨Nat.le_of_ble_eq_true rfl, Nat.le_of_ble_eq_true rfl⟩) rfl hl.1 rfl (Nat.le_of_ble_eq_true rfl) dX6_builds_34 ⟨Nat.zero_le _, Nat.zero_le _⟩) hW (fun H locs hW => ?_)
      refine lv_icmp_ne (tgt := 43) S.1 S.2.1 dX6_builds_37 (by decide) (fun c9 => ?_) (fun c9 => ?_)
      · replace h := (if_neg c9).symm.trans h
        refine lv_aload_n S.1 S.2.1 dX6_builds_43 rfl (lv_at hl 1 rfl) ?_
        refine fl_get S hK iX6 rfl lC_0 sC_0 2 (by decide) (hq _ q_135) (fun _ h9 => h9) (fvs_R rfl rfl) hW dX6_builds_44 ?_
        refine lv_aload_n S.1 S.2.1 dX6_builds_47 rfl (lv_at hl 1 rfl) ?_
        refine fl_get S hK iX6 rfl lC_0 sC_0 1 (by decide) (hq _ q_130) (fun _ h9 => h9) (fvs_R rfl rfl) hW dX6_builds_48 ?_
        obtain ⟨M11, u10, h⟩ := bP_some h
        refine fl_doneV (fl_runVN S hK hN (kX2_remember l hJ 3 (rfl : isM 3 = true) M M11 u10) ⟨va_cnB 1 S.2.2.2.2 (gN q_186) rfl rfl rfl (hN.m 20 rfl) (hq _ q_187) (by decide +kernel) ⟨Nat.le_of_ble_eq_true rfl, Nat.le_of_ble_eq_true rfl⟩, (hq _ q_188), (hq _ q_189)⟩ (ci := 2) rfl lC_7 sC_7 rfl hl.1 rfl (Nat.le_of_ble_eq_true rfl) dX6_builds_51 ⟨Nat.zero_le _, Nat.zero_le _⟩ hW) hA hW.2 (fun H locs hW => ?_)
        refine lv_aload_n S.1 S.2.1 dX6_builds_54 rfl (lv_at hl 1 rfl) ?_
        refine fl_get S hK iX6 rfl lC_0 sC_0 1 (by decide) (hq _ q_130) (fun _ h9 => h9) (fvs_R rfl rfl) hW dX6_builds_55 ?_
        refine lv_iload_n S.1 S.2.1 dX6_builds_58 rfl (lv_at hl 2 rfl) ?_
        obtain ⟨M13, u12, h⟩ := bP_some h
        refine fl_doneV (fl_runVN S hK hN (kX1_buildAnew l hJ 3 (rfl : isM 3 = true) p1 M11 M13 u12) ⟨va_cnB 1 S.2.2.2.2 (gN q_199) rfl rfl rfl (hN.m 25 rfl) (hq _ q_41) (by decide +kernel) ⟨Nat.le_of_ble_eq_true rfl, Nat.le_of_ble_eq_true rfl⟩, (hq _ q_200), (hq _ q_201)⟩ (ci := 1) rfl lC_3 sC_3 rfl hl.1 rfl (Nat.le_of_ble_eq_true rfl) dX6_builds_59 ⟨Nat.zero_le _, Nat.zero_le _⟩ hW) hA hW.2 (fun H locs hW => ?_)
        refine lv_iload_n S.1 S.2.1 dX6_builds_62 rfl (lv_at hl 0 rfl) ?_
        obtain ⟨rfl, rfl⟩ := s2 h
        exact fl_iret S.1 S.2.1 hr hlocks hW dX6_builds_63
      · replace h := (if_pos c9).symm.trans h
        refine lv_bipush (v := (-2 : Int32)) S.1 S.2.1 dX6_builds_40 (by decide) ?_
        obtain ⟨rfl, rfl⟩ := s2 h
        exact fl_iret S.1 S.2.1 hr hlocks hW dX6_builds_42
  · replace h := (if_pos c3).symm.trans h
    refine lv_iconst (v := (-1 : Int32)) S.1 S.2.1 dX6_builds_8 (by decide) ?_
    obtain ⟨rfl, rfl⟩ := s2 h
    exact fl_iret S.1 S.2.1 hr hlocks hW dX6_builds_9
def fX6_undo (M : Mm) : Option (Int32 × Mm) :=
  if (M.1 7 2) = 0 then (some ((-2 : Int32), M)) else (bP (fX2_restore 3 M) (fun (M3 : Mm) => some (M3.1 7 2, M3)))
set_option maxHeartbeats 4000000 in
set_option maxRecDepth 100000 in
theorem kX6_undo (l : Launch) {D : va_G} {cy : Nat → ClassId} {ad : Nat → Nat} (hJ : Inj ad 80)   (M : Mm) (r : Int32) (M' : Mm) (h : fX6_undo M = some (r, M')) : Met l yX6_undo vX6_undo ({ frames := 3, cells := 0, slots := 0, locals := 106 } : Room) (PcF [.ref (ad 0)] D cy ad kdV shC rfC 80 M) (QcI r D cy ad kdV shC rfC 80 M') 0 0 (AV ad 80) := by
  refine Met.ofW (cc := cX6_undo) (maxL := 1) (ret := (some .int)) (by decide) rfl ?_
  intro p e s m args below meth c s₁ B hml hv
  obtain ⟨rfl, hP, hK, hN⟩ := hv
  have hr := B.returns
  have hlocks := B.notSynchronized
  have S : CallFix p m c cX6_undo 1 s ([.ref (ad 0)] : List Value).toArray vX6_undo RX6 := ⟨B.exec, B.bytes, hml, findClass_of_methodNamed B.named, atoms_spec (ws := vX6_undo) B.pre⟩
  have hq : ∀ w ∈ GW, w.before ([.ref (ad 0)] : List Value).toArray s = true := fun w h => S.2.2.2.2 w (List.mem_cons_of_mem _ h)
  have hA : ∀ k, k < 80 → AV ad 80 (ad k) := fun k hk => ⟨k, hk, rfl⟩
  have hW : WSt D cy ad kdV shC rfC 80 (AV ad 80) M s.heap s.heap [] := ⟨hP, va_S.rf⟩
  clear hP
  have iX2 : ∀ w ∈ wsX20, w ∈ vX6_undo := fun w h => List.mem_cons_of_mem _ (inX2 w h)
  have iX6 : ∀ w ∈ wsX60, w ∈ vX6_undo := fun w h => List.mem_cons_of_mem _ (inX6 w h)
  have hl := lv_entry ([.ref (ad 0)]) (n := 1) (Nat.le_of_ble_eq_true rfl)
  rw [lg_entry_eq]
  generalize (lg_sl ([.ref (ad 0)]) ++ List.replicate (1 - (lg_sl ([.ref (ad 0)])).length) Slot.unset).toArray = ls at hl ⊢
  have hl : lv_has ls 1 [(0, .ref (ad 0))] := hl
  rw [fX6_undo] at h
  refine lv_aload_n S.1 S.2.1 dX6_undo_0 rfl (lv_at hl 0 rfl) ?_
  refine fl_get S hK iX6 rfl lC_0 sC_0 2 (by decide) (hq _ q_135) (fun _ h9 => h9) (fvs_R rfl rfl) hW dX6_undo_1 ?_
  refine fl_getN S hK iX2 rfl lC_7 sC_7 2 (by decide) (hN.f 8 rfl) (fun _ h9 => h9) (fvs_I rfl) hW dX6_undo_4 ?_
  refine lv_if_ne (tgt := 13) S.1 S.2.1 dX6_undo_7 (by decide) (fun c1 => ?_) (fun c1 => ?_)
  · replace h := (if_neg c1).symm.trans h
    refine lv_aload_n S.1 S.2.1 dX6_undo_13 rfl (lv_at hl 0 rfl) ?_
    refine fl_get S hK iX6 rfl lC_0 sC_0 2 (by decide) (hq _ q_135) (fun _ h9 => h9) (fvs_R rfl rfl) hW dX6_undo_14 ?_
    refine lv_aload_n S.1 S.2.1 dX6_undo_17 rfl (lv_at hl 0 rfl) ?_
    refine fl_get S hK iX6 rfl lC_0 sC_0 1 (by decide) (hq _ q_130) (fun _ h9 => h9) (fvs_R rfl rfl) hW dX6_undo_18 ?_
    obtain ⟨M3, u2, h⟩ := bP_some h
    refine fl_doneV (fl_runVN S hK hN (kX2_restore l hJ 3 (rfl : isM 3 = true) M M3 u2) ⟨va_cnB 1 S.2.2.2.2 (gN q_202) rfl rfl rfl (hN.m 26 rfl) (hq _ q_187) (by decide +kernel) ⟨Nat.le_of_ble_eq_true rfl, Nat.le_of_ble_eq_true rfl⟩, (hq _ q_203), (hq _ q_204)⟩ (ci := 2) rfl lC_7 sC_7 rfl hl.1 rfl (Nat.le_of_ble_eq_true rfl) dX6_undo_21 ⟨Nat.zero_le _, Nat.zero_le _⟩ hW) hA hW.2 (fun H locs hW => ?_)
    refine lv_aload_n S.1 S.2.1 dX6_undo_24 rfl (lv_at hl 0 rfl) ?_
    refine fl_get S hK iX6 rfl lC_0 sC_0 2 (by decide) (hq _ q_135) (fun _ h9 => h9) (fvs_R rfl rfl) hW dX6_undo_25 ?_
    refine fl_getN S hK iX2 rfl lC_7 sC_7 2 (by decide) (hN.f 8 rfl) (fun _ h9 => h9) (fvs_I rfl) hW dX6_undo_28 ?_
    obtain ⟨rfl, rfl⟩ := s2 h
    exact fl_iret S.1 S.2.1 hr hlocks hW dX6_undo_31
  · replace h := (if_pos c1).symm.trans h
    refine lv_bipush (v := (-2 : Int32)) S.1 S.2.1 dX6_undo_10 (by decide) ?_
    obtain ⟨rfl, rfl⟩ := s2 h
    exact fl_iret S.1 S.2.1 hr hlocks hW dX6_undo_12

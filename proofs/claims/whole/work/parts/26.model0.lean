def fX7_type (p1 : Int32) (M : Mm) : Option (Int32 × Mm) :=
  lt (wI M 0 0 (0 : Int32)) (fun (M1 : Mm) => bP (fX7_in p1 (0 : Int32) (255 : Int32)) (fun (v4 : Int32) => if v4 = 0 then (some ((-1 : Int32), M1)) else (if (M1.1 0 3) = (120 : Int32) then (some ((-3 : Int32), M1)) else (ix (M1.1 0 3) 120 (lt (wI M1 1 (M1.1 0 3).toNatClampNeg p1) (fun (M8 : Mm) => lt (wI M8 0 3 ((M8.1 0 3) + (1 : Int32))) (fun (M10 : Mm) => some (M10.1 0 3, M10))))))))
set_option maxHeartbeats 4000000 in
set_option maxRecDepth 100000 in
theorem kX7_type (l : Launch) {D : va_G} {cy : Nat → ClassId} {ad : Nat → Nat} (hJ : Inj ad 15)  (p1 : Int32) (M : Mm) (r : Int32) (M' : Mm) (h : fX7_type p1 M = some (r, M')) : Met l yX7_type vX7_type ({ frames := 1, cells := 0, slots := 0, locals := 22 } : Room) (PcF [.ref (ad 0), .int p1] D cy ad kdV shM rfM 15 M) (QcI r D cy ad kdV shM rfM 15 M') 0 0 (AV ad 15) := by
  refine Met.ofW (cc := cX7_type) (maxL := 2) (ret := (some .int)) (by decide) rfl ?_
  intro p e s m args below meth c s₁ B hml hv
  obtain ⟨rfl, hP, hK, hN⟩ := hv
  have hr := B.returns
  have hlocks := B.notSynchronized
  have S : CallFix p m c cX7_type 2 s ([.ref (ad 0), .int p1] : List Value).toArray vX7_type RX7 := ⟨B.exec, B.bytes, hml, findClass_of_methodNamed B.named, atoms_spec (ws := vX7_type) B.pre⟩
  have hq : ∀ w ∈ GW, w.before ([.ref (ad 0), .int p1] : List Value).toArray s = true := fun w h => S.2.2.2.2 w (List.mem_cons_of_mem _ h)
  have hA : ∀ k, k < 15 → AV ad 15 (ad k) := fun k hk => ⟨k, hk, rfl⟩
  have hW : WSt D cy ad kdV shM rfM 15 (AV ad 15) M s.heap s.heap [] := ⟨hP, va_S.rf⟩
  clear hP
  have iX7 : ∀ w ∈ wsX70, w ∈ vX7_type := fun w h => List.mem_cons_of_mem _ (inX7 w h)
  have hl := lv_entry ([.ref (ad 0), .int p1]) (n := 2) (Nat.le_of_ble_eq_true rfl)
  rw [lg_entry_eq]
  generalize (lg_sl ([.ref (ad 0), .int p1]) ++ List.replicate (2 - (lg_sl ([.ref (ad 0), .int p1])).length) Slot.unset).toArray = ls at hl ⊢
  have hl : lv_has ls 2 [(0, .ref (ad 0)), (1, .int p1)] := hl
  rw [fX7_type] at h
  refine lv_aload_n S.1 S.2.1 dX7_type_0 rfl (lv_at hl 0 rfl) ?_
  refine lv_iconst (v := (0 : Int32)) S.1 S.2.1 dX7_type_1 (by decide) ?_
  refine fl_put S hK hJ hA tyX7 tyX7_ok nmX7 iX7 rfl lM_0 sM_0 0 (by decide) (hq _ q_287) (fun _ h9 => h9) rfl (ty := .int) rfl rfl rfl (wI M 0 0 (0 : Int32)) (by decide) (fvs_setI _ _ _ _ _ _ _ rfl) (fun j _ hj => cof_wI_ne hj) hW dX7_type_2 (fun H locs hW => ?_)
  obtain ⟨M1, e2, h⟩ := lt_some h
  rw [e2] at hW
  clear e2
  refine lv_iload_n S.1 S.2.1 dX7_type_5 rfl (lv_at hl 1 rfl) ?_
  refine lv_iconst (v := (0 : Int32)) S.1 S.2.1 dX7_type_6 (by decide) ?_
  refine lv_sipush (v := (255 : Int32)) S.1 S.2.1 dX7_type_7 (by decide) ?_
  obtain ⟨v4, u3, h⟩ := bP_some h
  refine fl_doneP (fl_runS S (kX7_in l p1 (0 : Int32) (255 : Int32) v4 u3) (va_cwS 3 S.2.2.2.2 (gS q_289 q_290 q_291 q_288) rfl rfl rfl (by decide +kernel) ⟨Nat.le_of_ble_eq_true rfl, Nat.le_of_ble_eq_true rfl⟩) rfl hl.1 rfl (Nat.le_of_ble_eq_true rfl) dX7_type_10 ⟨Nat.zero_le _, Nat.zero_le _⟩) hW (fun H locs hW => ?_)
  refine lv_if_ne (tgt := 18) S.1 S.2.1 dX7_type_13 (by decide) (fun c5 => ?_) (fun c5 => ?_)
  · replace h := (if_neg c5).symm.trans h
    refine lv_aload_n S.1 S.2.1 dX7_type_18 rfl (lv_at hl 0 rfl) ?_
    refine fl_get S hK iX7 rfl lM_0 sM_0 3 (by decide) (hq _ q_292) (fun _ h9 => h9) (fvs_I rfl) hW dX7_type_19 ?_
    refine lv_bipush (v := (120 : Int32)) S.1 S.2.1 dX7_type_22 (by decide) ?_
    refine lv_icmp_ne (tgt := 30) S.1 S.2.1 dX7_type_24 (by decide) (fun c6 => ?_) (fun c6 => ?_)
    · replace h := (if_neg c6).symm.trans h
      refine lv_aload_n S.1 S.2.1 dX7_type_30 rfl (lv_at hl 0 rfl) ?_
      refine fl_get S hK iX7 rfl lM_0 sM_0 2 (by decide) (hq _ q_293) (fun _ h9 => h9) (fvs_R rfl rfl) hW dX7_type_31 ?_
      refine lv_aload_n S.1 S.2.1 dX7_type_34 rfl (lv_at hl 0 rfl) ?_
      refine fl_get S hK iX7 rfl lM_0 sM_0 3 (by decide) (hq _ q_292) (fun _ h9 => h9) (fvs_I rfl) hW dX7_type_35 ?_
      refine lv_iload_n S.1 S.2.1 dX7_type_38 rfl (lv_at hl 1 rfl) ?_
      obtain ⟨g7, h⟩ := ix_some h
      refine fl_iast S hK hJ hA lM_1 sM_1 g7 hW dX7_type_39 (fun H locs hW => ?_)
      obtain ⟨M8, e9, h⟩ := lt_some h
      rw [e9] at hW
      clear e9
      refine lv_aload_n S.1 S.2.1 dX7_type_40 rfl (lv_at hl 0 rfl) ?_
      refine lv_dup S.1 S.2.1 dX7_type_41 rfl ?_
      refine fl_get S hK iX7 rfl lM_0 sM_0 3 (by decide) (hq _ q_292) (fun _ h9 => h9) (fvs_I rfl) hW dX7_type_42 ?_
      refine lv_iconst (v := (1 : Int32)) S.1 S.2.1 dX7_type_45 (by decide) ?_
      refine lv_iadd S.1 S.2.1 dX7_type_46 ?_
      refine fl_put S hK hJ hA tyX7 tyX7_ok nmX7 iX7 rfl lM_0 sM_0 3 (by decide) (hq _ q_292) (fun _ h9 => h9) rfl (ty := .int) rfl rfl rfl (wI M8 0 3 ((M8.1 0 3) + (1 : Int32))) (by decide) (fvs_setI _ _ _ _ _ _ _ rfl) (fun j _ hj => cof_wI_ne hj) hW dX7_type_47 (fun H locs hW => ?_)
      obtain ⟨M10, e11, h⟩ := lt_some h
      rw [e11] at hW
      clear e11
      refine lv_aload_n S.1 S.2.1 dX7_type_50 rfl (lv_at hl 0 rfl) ?_
      refine fl_get S hK iX7 rfl lM_0 sM_0 3 (by decide) (hq _ q_292) (fun _ h9 => h9) (fvs_I rfl) hW dX7_type_51 ?_
      obtain ⟨rfl, rfl⟩ := s2 h
      exact fl_iret S.1 S.2.1 hr hlocks hW dX7_type_54
    · replace h := (if_pos c6).symm.trans h
      refine lv_bipush (v := (-3 : Int32)) S.1 S.2.1 dX7_type_27 (by decide) ?_
      obtain ⟨rfl, rfl⟩ := s2 h
      exact fl_iret S.1 S.2.1 hr hlocks hW dX7_type_29
  · replace h := (if_pos c5).symm.trans h
    refine lv_iconst (v := (-1 : Int32)) S.1 S.2.1 dX7_type_16 (by decide) ?_
    obtain ⟨rfl, rfl⟩ := s2 h
    exact fl_iret S.1 S.2.1 hr hlocks hW dX7_type_17
def fX7_clear (M : Mm) : Option (Int32 × Mm) :=
  lt (wI M 0 0 (0 : Int32)) (fun (M1 : Mm) => lt (wI M1 0 3 (0 : Int32)) (fun (M3 : Mm) => some (M1.1 0 3, M3)))
set_option maxHeartbeats 4000000 in
set_option maxRecDepth 100000 in
theorem kX7_clear (l : Launch) {D : va_G} {cy : Nat → ClassId} {ad : Nat → Nat} (hJ : Inj ad 15)   (M : Mm) (r : Int32) (M' : Mm) (h : fX7_clear M = some (r, M')) : Met l yX7_clear vX7_clear ({ frames := 0, cells := 0, slots := 0, locals := 0 } : Room) (PcF [.ref (ad 0)] D cy ad kdV shM rfM 15 M) (QcI r D cy ad kdV shM rfM 15 M') 0 0 (AV ad 15) := by
  refine Met.ofW (cc := cX7_clear) (maxL := 2) (ret := (some .int)) (by decide) rfl ?_
  intro p e s m args below meth c s₁ B hml hv
  obtain ⟨rfl, hP, hK, hN⟩ := hv
  have hr := B.returns
  have hlocks := B.notSynchronized
  have S : CallFix p m c cX7_clear 2 s ([.ref (ad 0)] : List Value).toArray vX7_clear RX7 := ⟨B.exec, B.bytes, hml, findClass_of_methodNamed B.named, atoms_spec (ws := vX7_clear) B.pre⟩
  have hq : ∀ w ∈ GW, w.before ([.ref (ad 0)] : List Value).toArray s = true := fun w h => S.2.2.2.2 w (List.mem_cons_of_mem _ h)
  have hA : ∀ k, k < 15 → AV ad 15 (ad k) := fun k hk => ⟨k, hk, rfl⟩
  have hW : WSt D cy ad kdV shM rfM 15 (AV ad 15) M s.heap s.heap [] := ⟨hP, va_S.rf⟩
  clear hP
  have iX7 : ∀ w ∈ wsX70, w ∈ vX7_clear := fun w h => List.mem_cons_of_mem _ (inX7 w h)
  have hl := lv_entry ([.ref (ad 0)]) (n := 2) (Nat.le_of_ble_eq_true rfl)
  rw [lg_entry_eq]
  generalize (lg_sl ([.ref (ad 0)]) ++ List.replicate (2 - (lg_sl ([.ref (ad 0)])).length) Slot.unset).toArray = ls at hl ⊢
  have hl : lv_has ls 2 [(0, .ref (ad 0))] := hl
  rw [fX7_clear] at h
  refine lv_aload_n S.1 S.2.1 dX7_clear_0 rfl (lv_at hl 0 rfl) ?_
  refine lv_iconst (v := (0 : Int32)) S.1 S.2.1 dX7_clear_1 (by decide) ?_
  refine fl_put S hK hJ hA tyX7 tyX7_ok nmX7 iX7 rfl lM_0 sM_0 0 (by decide) (hq _ q_287) (fun _ h9 => h9) rfl (ty := .int) rfl rfl rfl (wI M 0 0 (0 : Int32)) (by decide) (fvs_setI _ _ _ _ _ _ _ rfl) (fun j _ hj => cof_wI_ne hj) hW dX7_clear_2 (fun H locs hW => ?_)
  obtain ⟨M1, e2, h⟩ := lt_some h
  rw [e2] at hW
  clear e2
  refine lv_aload_n S.1 S.2.1 dX7_clear_5 rfl (lv_at hl 0 rfl) ?_
  refine fl_get S hK iX7 rfl lM_0 sM_0 3 (by decide) (hq _ q_292) (fun _ h9 => h9) (fvs_I rfl) hW dX7_clear_6 ?_
  refine lv_istore_n (lv' := [(1, .int (M1.1 0 3)), (0, .ref (ad 0))]) S.1 S.2.1 dX7_clear_9 rfl hl (by decide) rfl (fun ls hl => ?_)
  refine lv_aload_n S.1 S.2.1 dX7_clear_10 rfl (lv_at hl 1 rfl) ?_
  refine lv_iconst (v := (0 : Int32)) S.1 S.2.1 dX7_clear_11 (by decide) ?_
  refine fl_put S hK hJ hA tyX7 tyX7_ok nmX7 iX7 rfl lM_0 sM_0 3 (by decide) (hq _ q_292) (fun _ h9 => h9) rfl (ty := .int) rfl rfl rfl (wI M1 0 3 (0 : Int32)) (by decide) (fvs_setI _ _ _ _ _ _ _ rfl) (fun j _ hj => cof_wI_ne hj) hW dX7_clear_12 (fun H locs hW => ?_)
  obtain ⟨M3, e4, h⟩ := lt_some h
  rw [e4] at hW
  clear e4
  refine lv_iload_n S.1 S.2.1 dX7_clear_15 rfl (lv_at hl 0 rfl) ?_
  obtain ⟨rfl, rfl⟩ := s2 h
  exact fl_iret S.1 S.2.1 hr hlocks hW dX7_clear_16
def fX7_letterAt (p1 : Int32) (M : Mm) : Option (Int32) :=
  if (M.1 0 3) ≤ p1 then (some (-1 : Int32)) else (ix p1 120 (some (M.1 1 (p1).toNatClampNeg)))
set_option maxHeartbeats 4000000 in
set_option maxRecDepth 100000 in
theorem kX7_letterAt (l : Launch) {D : va_G} {cy : Nat → ClassId} {ad : Nat → Nat} (hJ : Inj ad 15)  (p1 : Int32) (M : Mm) (r : Int32) (h : fX7_letterAt p1 M = some r) : Met l yX7_letterAt vX7_letterAt ({ frames := 0, cells := 0, slots := 0, locals := 0 } : Room) (PcF [.ref (ad 0), .int p1] D cy ad kdV shM rfM 15 M) (QcI r D cy ad kdV shM rfM 15 M) 0 0 (AV ad 15) := by
  refine Met.ofW (cc := cX7_letterAt) (maxL := 2) (ret := (some .int)) (by decide) rfl ?_
  intro p e s m args below meth c s₁ B hml hv
  obtain ⟨rfl, hP, hK, hN⟩ := hv
  have hr := B.returns
  have hlocks := B.notSynchronized
  have S : CallFix p m c cX7_letterAt 2 s ([.ref (ad 0), .int p1] : List Value).toArray vX7_letterAt RX7 := ⟨B.exec, B.bytes, hml, findClass_of_methodNamed B.named, atoms_spec (ws := vX7_letterAt) B.pre⟩
  have hq : ∀ w ∈ GW, w.before ([.ref (ad 0), .int p1] : List Value).toArray s = true := fun w h => S.2.2.2.2 w (List.mem_cons_of_mem _ h)
  have hA : ∀ k, k < 15 → AV ad 15 (ad k) := fun k hk => ⟨k, hk, rfl⟩
  have hW : WSt D cy ad kdV shM rfM 15 (AV ad 15) M s.heap s.heap [] := ⟨hP, va_S.rf⟩
  clear hP
  have iX7 : ∀ w ∈ wsX70, w ∈ vX7_letterAt := fun w h => List.mem_cons_of_mem _ (inX7 w h)
  have hl := lv_entry ([.ref (ad 0), .int p1]) (n := 2) (Nat.le_of_ble_eq_true rfl)
  rw [lg_entry_eq]
  generalize (lg_sl ([.ref (ad 0), .int p1]) ++ List.replicate (2 - (lg_sl ([.ref (ad 0), .int p1])).length) Slot.unset).toArray = ls at hl ⊢
  have hl : lv_has ls 2 [(0, .ref (ad 0)), (1, .int p1)] := hl
  rw [fX7_letterAt] at h
  refine lv_iload_n S.1 S.2.1 dX7_letterAt_0 rfl (lv_at hl 1 rfl) ?_
  refine lv_aload_n S.1 S.2.1 dX7_letterAt_1 rfl (lv_at hl 0 rfl) ?_
  refine fl_get S hK iX7 rfl lM_0 sM_0 3 (by decide) (hq _ q_292) (fun _ h9 => h9) (fvs_I rfl) hW dX7_letterAt_2 ?_
  refine lv_icmp_ge (tgt := 17) S.1 S.2.1 dX7_letterAt_5 (by decide) (fun c1 => ?_) (fun c1 => ?_)
  · replace h := (if_pos c1).symm.trans h
    refine lv_iconst (v := (-1 : Int32)) S.1 S.2.1 dX7_letterAt_17 (by decide) ?_
    obtain rfl := s1 h
    exact fl_iret S.1 S.2.1 hr hlocks hW dX7_letterAt_18
  · replace h := (if_neg c1).symm.trans h
    refine lv_aload_n S.1 S.2.1 dX7_letterAt_8 rfl (lv_at hl 0 rfl) ?_
    refine fl_get S hK iX7 rfl lM_0 sM_0 2 (by decide) (hq _ q_293) (fun _ h9 => h9) (fvs_R rfl rfl) hW dX7_letterAt_9 ?_
    refine lv_iload_n S.1 S.2.1 dX7_letterAt_12 rfl (lv_at hl 1 rfl) ?_
    obtain ⟨g2, h⟩ := ix_some h
    refine fl_iald S hK lM_1 sM_1 g2 hW dX7_letterAt_13 ?_
    refine lv_goto (tgt := 18) S.1 S.2.1 dX7_letterAt_14 (by decide) ?_
    obtain rfl := s1 h
    exact fl_iret S.1 S.2.1 hr hlocks hW dX7_letterAt_18
def fX7_advances_L0  : Nat → Mm → Option (Mm)
  | 0, _ => none
  | n + 1, Ml => bP (fX7_letterAt (Ml.1 0 4) Ml) (fun (v3 : Int32) => if v3 = (32 : Int32) then (lt (wI Ml 0 4 ((Ml.1 0 4) + (1 : Int32))) (fun (M5 : Mm) => fX7_advances_L0 n M5)) else (some Ml))
def fX7_advances_L71  : Nat → Mm → Option (Mm)
  | 0, _ => none
  | n + 1, Ml => bP (fX7_letterAt (Ml.1 0 4) Ml) (fun (v33 : Int32) => bP (fX7_in v33 (48 : Int32) (57 : Int32)) (fun (v35 : Int32) => if v35 = 0 then (some Ml) else (if (Ml.1 0 7) ≤ (99 : Int32) then (bP (fX7_letterAt (Ml.1 0 4) Ml) (fun (v39 : Int32) => lt (wI Ml 0 7 ((((10 : Int32) * (Ml.1 0 7)) + v39) - (48 : Int32))) (fun (M40 : Mm) => lt (wI M40 0 4 ((M40.1 0 4) + (1 : Int32))) (fun (M42 : Mm) => fX7_advances_L71 n M42)))) else (lt (wI Ml 0 7 (Ml.1 0 7)) (fun (M44 : Mm) => lt (wI M44 0 4 ((M44.1 0 4) + (1 : Int32))) (fun (M46 : Mm) => fX7_advances_L71 n M46))))))
def fX7_advances (M : Mm) : Option (Mm) :=
  bP (fX7_advances_L0 50000 M) (fun (M1 : Mm) => lt (wI M1 0 6 (M1.1 0 4)) (fun (M7 : Mm) => bP (fX7_letterAt (M7.1 0 4) M7) (fun (v10 : Int32) => if 0 ≤ v10 then (bP (fX7_in v10 (48 : Int32) (57 : Int32)) (fun (v13 : Int32) => if v13 = 0 then (lt (wI M7 0 4 ((M7.1 0 4) + (1 : Int32))) (fun (M15 : Mm) => lt (wI M15 0 7 v10) (fun (M17 : Mm) => if v10 = (59 : Int32) then (lt (wI M17 0 5 (3 : Int32)) (fun (M20 : Mm) => some M20)) else (bP (fX7_isLetter v10) (fun (v23 : Int32) => if v23 = 0 then (lt (wI M17 0 5 (4 : Int32)) (fun (M25 : Mm) => some M25)) else (lt (wI M17 0 5 (1 : Int32)) (fun (M27 : Mm) => some M27))))))) else (lt (wI M7 0 7 (0 : Int32)) (fun (M29 : Mm) => bP (fX7_advances_L71 50000 M29) (fun (M31 : Mm) => if (99 : Int32) < (M31.1 0 7) then (lt (wI M31 0 5 (4 : Int32)) (fun (M49 : Mm) => some M49)) else (if v10 = (48 : Int32) then (if ((M31.1 0 4) - (M31.1 0 6)) ≤ (1 : Int32) then (lt (wI M31 0 5 (2 : Int32)) (fun (M53 : Mm) => some M53)) else (lt (wI M31 0 5 (4 : Int32)) (fun (M55 : Mm) => some M55))) else (lt (wI M31 0 5 (2 : Int32)) (fun (M57 : Mm) => some M57)))))))) else (lt (wI M7 0 5 (0 : Int32)) (fun (M60 : Mm) => some M60)))))
set_option maxHeartbeats 4000000 in
set_option maxRecDepth 100000 in
theorem kX7_advances (l : Launch) {D : va_G} {cy : Nat → ClassId} {ad : Nat → Nat} (hJ : Inj ad 15)   (M : Mm) (M' : Mm) (h : fX7_advances M = some M') : Met l yX7_advances vX7_advances ({ frames := 1, cells := 0, slots := 0, locals := 22 } : Room) (PcF [.ref (ad 0)] D cy ad kdV shM rfM 15 M) (QcV D cy ad kdV shM rfM 15 M') 0 0 (AV ad 15) := by
  refine Met.ofW (cc := cX7_advances) (maxL := 2) (ret := none) (by decide) rfl ?_
  intro p e s m args below meth c s₁ B hml hv
  obtain ⟨rfl, hP, hK, hN⟩ := hv
  have hr := B.returns
  have hlocks := B.notSynchronized
  have S : CallFix p m c cX7_advances 2 s ([.ref (ad 0)] : List Value).toArray vX7_advances RX7 := ⟨B.exec, B.bytes, hml, findClass_of_methodNamed B.named, atoms_spec (ws := vX7_advances) B.pre⟩
  have hq : ∀ w ∈ GW, w.before ([.ref (ad 0)] : List Value).toArray s = true := fun w h => S.2.2.2.2 w (List.mem_cons_of_mem _ h)
  have hA : ∀ k, k < 15 → AV ad 15 (ad k) := fun k hk => ⟨k, hk, rfl⟩
  have hW : WSt D cy ad kdV shM rfM 15 (AV ad 15) M s.heap s.heap [] := ⟨hP, va_S.rf⟩
  clear hP
  have iX7 : ∀ w ∈ wsX70, w ∈ vX7_advances := fun w h => List.mem_cons_of_mem _ (inX7 w h)
  have hl := lv_entry ([.ref (ad 0)]) (n := 2) (Nat.le_of_ble_eq_true rfl)
  rw [lg_entry_eq]
  generalize (lg_sl ([.ref (ad 0)]) ++ List.replicate (2 - (lg_sl ([.ref (ad 0)])).length) Slot.unset).toArray = ls at hl ⊢
  have hl : lv_has ls 2 [(0, .ref (ad 0))] := hl
  rw [fX7_advances] at h
  have L0 : ∀ (n : Nat) (Ml : Mm) (M1 : Mm), fX7_advances_L0 n Ml = some M1 → ∀ (H : Heap) (locs : List Loc) (ls : Array Slot), lv_has ls 2 [(0, .ref (ad 0))] → WSt D cy ad kdV shM rfM 15 (AV ad 15) Ml s.heap H locs → (∀ (H : Heap) (locs : List Loc) (ls : Array Slot), lv_has ls 2 [(0, .ref (ad 0))] → WSt D cy ad kdV shM rfM 15 (AV ad 15) M1 s.heap H locs → W p l e (headSpec vX7_advances ({ frames := 1, cells := 0, slots := 0, locals := 22 } : Room)).room s m ([.ref (ad 0)] : List Value).toArray below meth c H locs 0 0 (MQ below (QcV D cy ad kdV shM rfM 15 M') ([.ref (ad 0)] : List Value).toArray s 0 0 (AV ad 15)) (F0 m 26 ls [])) → W p l e (headSpec vX7_advances ({ frames := 1, cells := 0, slots := 0, locals := 22 } : Room)).room s m ([.ref (ad 0)] : List Value).toArray below meth c H locs 0 0 (MQ below (QcV D cy ad kdV shM rfM 15 M') ([.ref (ad 0)] : List Value).toArray s 0 0 (AV ad 15)) (F0 m 0 ls []) := by
    intro n
    induction n with
    | zero => intro Ml M1 h; cases h
    | succ n ih =>
      intro Ml M1 h H locs ls hl hW K
      rw [fX7_advances_L0] at h
      refine lv_aload_n S.1 S.2.1 dX7_advances_0 rfl (lv_at hl 0 rfl) ?_
      refine lv_aload_n S.1 S.2.1 dX7_advances_1 rfl (lv_at hl 0 rfl) ?_
      refine fl_get S hK iX7 rfl lM_0 sM_0 4 (by decide) (hq _ q_294) (fun _ h9 => h9) (fvs_I rfl) hW dX7_advances_2 ?_
      obtain ⟨v3, u2, h⟩ := bP_some h
      refine fl_doneI (fl_runV S hK hN (kX7_letterAt l hJ (Ml.1 0 4) Ml v3 u2) (cwV 1 S.2.2.2.2 (gV q_296 q_297 q_298 q_291 q_295) rfl rfl rfl (by decide +kernel) ⟨Nat.le_of_ble_eq_true rfl, Nat.le_of_ble_eq_true rfl⟩) (ci := 7) rfl lM_0 sM_0 rfl hl.1 rfl (Nat.le_of_ble_eq_true rfl) dX7_advances_5 ⟨Nat.zero_le _, Nat.zero_le _⟩ hW) hA hW.2 (fun H locs hW => ?_)
      refine lv_bipush (v := (32 : Int32)) S.1 S.2.1 dX7_advances_8 (by decide) ?_
      refine lv_icmp_ne (tgt := 26) S.1 S.2.1 dX7_advances_10 (by decide) (fun c4 => ?_) (fun c4 => ?_)
      · replace h := (if_neg c4).symm.trans h
        obtain rfl := s1 h
        exact K _ _ _ hl hW
      · replace h := (if_pos c4).symm.trans h
        refine lv_aload_n S.1 S.2.1 dX7_advances_13 rfl (lv_at hl 0 rfl) ?_
        refine lv_dup S.1 S.2.1 dX7_advances_14 rfl ?_
        refine fl_get S hK iX7 rfl lM_0 sM_0 4 (by decide) (hq _ q_294) (fun _ h9 => h9) (fvs_I rfl) hW dX7_advances_15 ?_
        refine lv_iconst (v := (1 : Int32)) S.1 S.2.1 dX7_advances_18 (by decide) ?_
        refine lv_iadd S.1 S.2.1 dX7_advances_19 ?_
        refine fl_put S hK hJ hA tyX7 tyX7_ok nmX7 iX7 rfl lM_0 sM_0 4 (by decide) (hq _ q_294) (fun _ h9 => h9) rfl (ty := .int) rfl rfl rfl (wI Ml 0 4 ((Ml.1 0 4) + (1 : Int32))) (by decide) (fvs_setI _ _ _ _ _ _ _ rfl) (fun j _ hj => cof_wI_ne hj) hW dX7_advances_20 (fun H locs hW => ?_)
        obtain ⟨M5, e6, h⟩ := lt_some h
        rw [e6] at hW
        clear e6
        refine lv_goto (tgt := 0) S.1 S.2.1 dX7_advances_23 (by decide) ?_
        exact ih _ _ h _ _ _ hl hW K
  obtain ⟨M1, u62, h⟩ := bP_some h
  refine L0 50000 _ _ u62 _ _ _ hl hW (fun H locs ls hl hW => ?_)
  clear L0
  refine lv_aload_n S.1 S.2.1 dX7_advances_26 rfl (lv_at hl 0 rfl) ?_
  refine lv_aload_n S.1 S.2.1 dX7_advances_27 rfl (lv_at hl 0 rfl) ?_
  refine fl_get S hK iX7 rfl lM_0 sM_0 4 (by decide) (hq _ q_294) (fun _ h9 => h9) (fvs_I rfl) hW dX7_advances_28 ?_
  refine fl_put S hK hJ hA tyX7 tyX7_ok nmX7 iX7 rfl lM_0 sM_0 6 (by decide) (hq _ q_299) (fun _ h9 => h9) rfl (ty := .int) rfl rfl rfl (wI M1 0 6 (M1.1 0 4)) (by decide) (fvs_setI _ _ _ _ _ _ _ rfl) (fun j _ hj => cof_wI_ne hj) hW dX7_advances_31 (fun H locs hW => ?_)
  obtain ⟨M7, e8, h⟩ := lt_some h
  rw [e8] at hW
  clear e8
  refine lv_aload_n S.1 S.2.1 dX7_advances_34 rfl (lv_at hl 0 rfl) ?_
  refine lv_aload_n S.1 S.2.1 dX7_advances_35 rfl (lv_at hl 0 rfl) ?_
  refine fl_get S hK iX7 rfl lM_0 sM_0 4 (by decide) (hq _ q_294) (fun _ h9 => h9) (fvs_I rfl) hW dX7_advances_36 ?_
  obtain ⟨v10, u9, h⟩ := bP_some h
  refine fl_doneI (fl_runV S hK hN (kX7_letterAt l hJ (M7.1 0 4) M7 v10 u9) (cwV 1 S.2.2.2.2 (gV q_296 q_297 q_298 q_291 q_295) rfl rfl rfl (by decide +kernel) ⟨Nat.le_of_ble_eq_true rfl, Nat.le_of_ble_eq_true rfl⟩) (ci := 7) rfl lM_0 sM_0 rfl hl.1 rfl (Nat.le_of_ble_eq_true rfl) dX7_advances_39 ⟨Nat.zero_le _, Nat.zero_le _⟩ hW) hA hW.2 (fun H locs hW => ?_)
  refine lv_istore_n (lv' := [(1, .int v10), (0, .ref (ad 0))]) S.1 S.2.1 dX7_advances_42 rfl hl (by decide) rfl (fun ls hl => ?_)
  refine lv_iload_n S.1 S.2.1 dX7_advances_43 rfl (lv_at hl 0 rfl) ?_
  refine lv_if_ge (tgt := 55) S.1 S.2.1 dX7_advances_44 (by decide) (fun c11 => ?_) (fun c11 => ?_)
  · replace h := (if_pos c11).symm.trans h
    refine lv_iload_n S.1 S.2.1 dX7_advances_55 rfl (lv_at hl 0 rfl) ?_
    refine lv_bipush (v := (48 : Int32)) S.1 S.2.1 dX7_advances_56 (by decide) ?_
    refine lv_bipush (v := (57 : Int32)) S.1 S.2.1 dX7_advances_58 (by decide) ?_
    obtain ⟨v13, u12, h⟩ := bP_some h
    refine fl_doneP (fl_runS S (kX7_in l v10 (48 : Int32) (57 : Int32) v13 u12) (va_cwS 3 S.2.2.2.2 (gS q_289 q_290 q_291 q_288) rfl rfl rfl (by decide +kernel) ⟨Nat.le_of_ble_eq_true rfl, Nat.le_of_ble_eq_true rfl⟩) rfl hl.1 rfl (Nat.le_of_ble_eq_true rfl) dX7_advances_60 ⟨Nat.zero_le _, Nat.zero_le _⟩) hW (fun H locs hW => ?_)
    refine lv_if_eq (tgt := 181) S.1 S.2.1 dX7_advances_63 (by decide) (fun c14 => ?_) (fun c14 => ?_)
    · replace h := (if_pos c14).symm.trans h
      refine lv_aload_n S.1 S.2.1 dX7_advances_181 rfl (lv_at hl 1 rfl) ?_
      refine lv_dup S.1 S.2.1 dX7_advances_182 rfl ?_
      refine fl_get S hK iX7 rfl lM_0 sM_0 4 (by decide) (hq _ q_294) (fun _ h9 => h9) (fvs_I rfl) hW dX7_advances_183 ?_
      refine lv_iconst (v := (1 : Int32)) S.1 S.2.1 dX7_advances_186 (by decide) ?_
      refine lv_iadd S.1 S.2.1 dX7_advances_187 ?_
      refine fl_put S hK hJ hA tyX7 tyX7_ok nmX7 iX7 rfl lM_0 sM_0 4 (by decide) (hq _ q_294) (fun _ h9 => h9) rfl (ty := .int) rfl rfl rfl (wI M7 0 4 ((M7.1 0 4) + (1 : Int32))) (by decide) (fvs_setI _ _ _ _ _ _ _ rfl) (fun j _ hj => cof_wI_ne hj) hW dX7_advances_188 (fun H locs hW => ?_)
      obtain ⟨M15, e16, h⟩ := lt_some h
      rw [e16] at hW
      clear e16
      refine lv_aload_n S.1 S.2.1 dX7_advances_191 rfl (lv_at hl 1 rfl) ?_
      refine lv_iload_n S.1 S.2.1 dX7_advances_192 rfl (lv_at hl 0 rfl) ?_
      refine fl_put S hK hJ hA tyX7 tyX7_ok nmX7 iX7 rfl lM_0 sM_0 7 (by decide) (hq _ q_300) (fun _ h9 => h9) rfl (ty := .int) rfl rfl rfl (wI M15 0 7 v10) (by decide) (fvs_setI _ _ _ _ _ _ _ rfl) (fun j _ hj => cof_wI_ne hj) hW dX7_advances_193 (fun H locs hW => ?_)
      obtain ⟨M17, e18, h⟩ := lt_some h
      rw [e18] at hW
      clear e18
      refine lv_aload_n S.1 S.2.1 dX7_advances_196 rfl (lv_at hl 1 rfl) ?_
      refine lv_iload_n S.1 S.2.1 dX7_advances_197 rfl (lv_at hl 0 rfl) ?_
      refine lv_bipush (v := (59 : Int32)) S.1 S.2.1 dX7_advances_198 (by decide) ?_
      refine lv_icmp_ne (tgt := 207) S.1 S.2.1 dX7_advances_200 (by decide) (fun c19 => ?_) (fun c19 => ?_)
      · replace h := (if_neg c19).symm.trans h
        refine lv_iload_n S.1 S.2.1 dX7_advances_207 rfl (lv_at hl 0 rfl) ?_
        obtain ⟨v23, u22, h⟩ := bP_some h
        refine fl_doneP (fl_runS S (kX7_isLetter l v10 v23 u22) (va_cwS 1 S.2.2.2.2 (gS q_303 q_304 q_291 q_302) rfl rfl rfl (by decide +kernel) ⟨Nat.le_of_ble_eq_true rfl, Nat.le_of_ble_eq_true rfl⟩) rfl hl.1 rfl (Nat.le_of_ble_eq_true rfl) dX7_advances_208 ⟨Nat.zero_le _, Nat.zero_le _⟩) hW (fun H locs hW => ?_)
        refine lv_if_eq (tgt := 218) S.1 S.2.1 dX7_advances_211 (by decide) (fun c24 => ?_) (fun c24 => ?_)
        · replace h := (if_pos c24).symm.trans h
          refine lv_iconst (v := (4 : Int32)) S.1 S.2.1 dX7_advances_218 (by decide) ?_
          refine fl_put S hK hJ hA tyX7 tyX7_ok nmX7 iX7 rfl lM_0 sM_0 5 (by decide) (hq _ q_301) (fun _ h9 => h9) rfl (ty := .int) rfl rfl rfl (wI M17 0 5 (4 : Int32)) (by decide) (fvs_setI _ _ _ _ _ _ _ rfl) (fun j _ hj => cof_wI_ne hj) hW dX7_advances_219 (fun H locs hW => ?_)
          obtain ⟨M25, e26, h⟩ := lt_some h
          rw [e26] at hW
          clear e26
          obtain rfl := s1 h
          exact fl_vret S.1 S.2.1 hr hlocks hW dX7_advances_222
        · replace h := (if_neg c24).symm.trans h
          refine lv_iconst (v := (1 : Int32)) S.1 S.2.1 dX7_advances_214 (by decide) ?_
          refine lv_goto (tgt := 219) S.1 S.2.1 dX7_advances_215 (by decide) ?_
          refine fl_put S hK hJ hA tyX7 tyX7_ok nmX7 iX7 rfl lM_0 sM_0 5 (by decide) (hq _ q_301) (fun _ h9 => h9) rfl (ty := .int) rfl rfl rfl (wI M17 0 5 (1 : Int32)) (by decide) (fvs_setI _ _ _ _ _ _ _ rfl) (fun j _ hj => cof_wI_ne hj) hW dX7_advances_219 (fun H locs hW => ?_)
          obtain ⟨M27, e28, h⟩ := lt_some h
          rw [e28] at hW
          clear e28
          obtain rfl := s1 h
          exact fl_vret S.1 S.2.1 hr hlocks hW dX7_advances_222
      · replace h := (if_pos c19).symm.trans h
        refine lv_iconst (v := (3 : Int32)) S.1 S.2.1 dX7_advances_203 (by decide) ?_
        refine lv_goto (tgt := 219) S.1 S.2.1 dX7_advances_204 (by decide) ?_
        refine fl_put S hK hJ hA tyX7 tyX7_ok nmX7 iX7 rfl lM_0 sM_0 5 (by decide) (hq _ q_301) (fun _ h9 => h9) rfl (ty := .int) rfl rfl rfl (wI M17 0 5 (3 : Int32)) (by decide) (fvs_setI _ _ _ _ _ _ _ rfl) (fun j _ hj => cof_wI_ne hj) hW dX7_advances_219 (fun H locs hW => ?_)
        obtain ⟨M20, e21, h⟩ := lt_some h
        rw [e21] at hW
        clear e21
        obtain rfl := s1 h
        exact fl_vret S.1 S.2.1 hr hlocks hW dX7_advances_222
    · replace h := (if_neg c14).symm.trans h
      refine lv_aload_n S.1 S.2.1 dX7_advances_66 rfl (lv_at hl 1 rfl) ?_
      refine lv_iconst (v := (0 : Int32)) S.1 S.2.1 dX7_advances_67 (by decide) ?_
      refine fl_put S hK hJ hA tyX7 tyX7_ok nmX7 iX7 rfl lM_0 sM_0 7 (by decide) (hq _ q_300) (fun _ h9 => h9) rfl (ty := .int) rfl rfl rfl (wI M7 0 7 (0 : Int32)) (by decide) (fvs_setI _ _ _ _ _ _ _ rfl) (fun j _ hj => cof_wI_ne hj) hW dX7_advances_68 (fun H locs hW => ?_)
      obtain ⟨M29, e30, h⟩ := lt_some h
      rw [e30] at hW
      clear e30
      have L71 : ∀ (n : Nat) (Ml : Mm) (M31 : Mm), fX7_advances_L71 n Ml = some M31 → ∀ (H : Heap) (locs : List Loc) (ls : Array Slot), lv_has ls 2 [(0, .ref (ad 0)), (1, .int v10)] → WSt D cy ad kdV shM rfM 15 (AV ad 15) Ml s.heap H locs → (∀ (H : Heap) (locs : List Loc) (ls : Array Slot), lv_has ls 2 [(0, .ref (ad 0)), (1, .int v10)] → WSt D cy ad kdV shM rfM 15 (AV ad 15) M31 s.heap H locs → W p l e (headSpec vX7_advances ({ frames := 1, cells := 0, slots := 0, locals := 22 } : Room)).room s m ([.ref (ad 0)] : List Value).toArray below meth c H locs 0 0 (MQ below (QcV D cy ad kdV shM rfM 15 M') ([.ref (ad 0)] : List Value).toArray s 0 0 (AV ad 15)) (F0 m 141 ls [])) → W p l e (headSpec vX7_advances ({ frames := 1, cells := 0, slots := 0, locals := 22 } : Room)).room s m ([.ref (ad 0)] : List Value).toArray below meth c H locs 0 0 (MQ below (QcV D cy ad kdV shM rfM 15 M') ([.ref (ad 0)] : List Value).toArray s 0 0 (AV ad 15)) (F0 m 71 ls []) := by
        intro n
        induction n with
        | zero => intro Ml M31 h; cases h
        | succ n ih =>
          intro Ml M31 h H locs ls hl hW K
          rw [fX7_advances_L71] at h
          refine lv_aload_n S.1 S.2.1 dX7_advances_71 rfl (lv_at hl 0 rfl) ?_
          refine lv_aload_n S.1 S.2.1 dX7_advances_72 rfl (lv_at hl 0 rfl) ?_
          refine fl_get S hK iX7 rfl lM_0 sM_0 4 (by decide) (hq _ q_294) (fun _ h9 => h9) (fvs_I rfl) hW dX7_advances_73 ?_
          obtain ⟨v33, u32, h⟩ := bP_some h
          refine fl_doneI (fl_runV S hK hN (kX7_letterAt l hJ (Ml.1 0 4) Ml v33 u32) (cwV 1 S.2.2.2.2 (gV q_296 q_297 q_298 q_291 q_295) rfl rfl rfl (by decide +kernel) ⟨Nat.le_of_ble_eq_true rfl, Nat.le_of_ble_eq_true rfl⟩) (ci := 7) rfl lM_0 sM_0 rfl hl.1 rfl (Nat.le_of_ble_eq_true rfl) dX7_advances_76 ⟨Nat.zero_le _, Nat.zero_le _⟩ hW) hA hW.2 (fun H locs hW => ?_)
          refine lv_bipush (v := (48 : Int32)) S.1 S.2.1 dX7_advances_79 (by decide) ?_
          refine lv_bipush (v := (57 : Int32)) S.1 S.2.1 dX7_advances_81 (by decide) ?_
          obtain ⟨v35, u34, h⟩ := bP_some h
          refine fl_doneP (fl_runS S (kX7_in l v33 (48 : Int32) (57 : Int32) v35 u34) (va_cwS 3 S.2.2.2.2 (gS q_289 q_290 q_291 q_288) rfl rfl rfl (by decide +kernel) ⟨Nat.le_of_ble_eq_true rfl, Nat.le_of_ble_eq_true rfl⟩) rfl hl.1 rfl (Nat.le_of_ble_eq_true rfl) dX7_advances_83 ⟨Nat.zero_le _, Nat.zero_le _⟩) hW (fun H locs hW => ?_)
          refine lv_if_eq (tgt := 141) S.1 S.2.1 dX7_advances_86 (by decide) (fun c36 => ?_) (fun c36 => ?_)
          · replace h := (if_pos c36).symm.trans h
            obtain rfl := s1 h
            exact K _ _ _ hl hW
          · replace h := (if_neg c36).symm.trans h
            refine lv_aload_n S.1 S.2.1 dX7_advances_89 rfl (lv_at hl 0 rfl) ?_
            refine lv_aload_n S.1 S.2.1 dX7_advances_90 rfl (lv_at hl 0 rfl) ?_
            refine fl_get S hK iX7 rfl lM_0 sM_0 7 (by decide) (hq _ q_300) (fun _ h9 => h9) (fvs_I rfl) hW dX7_advances_91 ?_
            refine lv_bipush (v := (99 : Int32)) S.1 S.2.1 dX7_advances_94 (by decide) ?_
            refine lv_icmp_le (tgt := 106) S.1 S.2.1 dX7_advances_96 (by decide) (fun c37 => ?_) (fun c37 => ?_)
            · replace h := (if_pos c37).symm.trans h
              refine lv_bipush (v := (10 : Int32)) S.1 S.2.1 dX7_advances_106 (by decide) ?_
              refine lv_aload_n S.1 S.2.1 dX7_advances_108 rfl (lv_at hl 0 rfl) ?_
              refine fl_get S hK iX7 rfl lM_0 sM_0 7 (by decide) (hq _ q_300) (fun _ h9 => h9) (fvs_I rfl) hW dX7_advances_109 ?_
              refine lv_imul S.1 S.2.1 dX7_advances_112 ?_
              refine lv_aload_n S.1 S.2.1 dX7_advances_113 rfl (lv_at hl 0 rfl) ?_
              refine lv_aload_n S.1 S.2.1 dX7_advances_114 rfl (lv_at hl 0 rfl) ?_
              refine fl_get S hK iX7 rfl lM_0 sM_0 4 (by decide) (hq _ q_294) (fun _ h9 => h9) (fvs_I rfl) hW dX7_advances_115 ?_
              obtain ⟨v39, u38, h⟩ := bP_some h
              refine fl_doneI (fl_runV S hK hN (kX7_letterAt l hJ (Ml.1 0 4) Ml v39 u38) (cwV 1 S.2.2.2.2 (gV q_296 q_297 q_298 q_291 q_295) rfl rfl rfl (by decide +kernel) ⟨Nat.le_of_ble_eq_true rfl, Nat.le_of_ble_eq_true rfl⟩) (ci := 7) rfl lM_0 sM_0 rfl hl.1 rfl (Nat.le_of_ble_eq_true rfl) dX7_advances_118 ⟨Nat.zero_le _, Nat.zero_le _⟩ hW) hA hW.2 (fun H locs hW => ?_)
              refine lv_iadd S.1 S.2.1 dX7_advances_121 ?_
              refine lv_bipush (v := (48 : Int32)) S.1 S.2.1 dX7_advances_122 (by decide) ?_
              refine lv_isub S.1 S.2.1 dX7_advances_124 ?_
              refine fl_put S hK hJ hA tyX7 tyX7_ok nmX7 iX7 rfl lM_0 sM_0 7 (by decide) (hq _ q_300) (fun _ h9 => h9) rfl (ty := .int) rfl rfl rfl (wI Ml 0 7 ((((10 : Int32) * (Ml.1 0 7)) + v39) - (48 : Int32))) (by decide) (fvs_setI _ _ _ _ _ _ _ rfl) (fun j _ hj => cof_wI_ne hj) hW dX7_advances_125 (fun H locs hW => ?_)
              obtain ⟨M40, e41, h⟩ := lt_some h
              rw [e41] at hW
              clear e41
              refine lv_aload_n S.1 S.2.1 dX7_advances_128 rfl (lv_at hl 0 rfl) ?_
              refine lv_dup S.1 S.2.1 dX7_advances_129 rfl ?_
              refine fl_get S hK iX7 rfl lM_0 sM_0 4 (by decide) (hq _ q_294) (fun _ h9 => h9) (fvs_I rfl) hW dX7_advances_130 ?_
              refine lv_iconst (v := (1 : Int32)) S.1 S.2.1 dX7_advances_133 (by decide) ?_
              refine lv_iadd S.1 S.2.1 dX7_advances_134 ?_
              refine fl_put S hK hJ hA tyX7 tyX7_ok nmX7 iX7 rfl lM_0 sM_0 4 (by decide) (hq _ q_294) (fun _ h9 => h9) rfl (ty := .int) rfl rfl rfl (wI M40 0 4 ((M40.1 0 4) + (1 : Int32))) (by decide) (fvs_setI _ _ _ _ _ _ _ rfl) (fun j _ hj => cof_wI_ne hj) hW dX7_advances_135 (fun H locs hW => ?_)
              obtain ⟨M42, e43, h⟩ := lt_some h
              rw [e43] at hW
              clear e43
              refine lv_goto (tgt := 71) S.1 S.2.1 dX7_advances_138 (by decide) ?_
              exact ih _ _ h _ _ _ hl hW K
            · replace h := (if_neg c37).symm.trans h
              refine lv_aload_n S.1 S.2.1 dX7_advances_99 rfl (lv_at hl 0 rfl) ?_
              refine fl_get S hK iX7 rfl lM_0 sM_0 7 (by decide) (hq _ q_300) (fun _ h9 => h9) (fvs_I rfl) hW dX7_advances_100 ?_
              refine lv_goto (tgt := 125) S.1 S.2.1 dX7_advances_103 (by decide) ?_
              refine fl_put S hK hJ hA tyX7 tyX7_ok nmX7 iX7 rfl lM_0 sM_0 7 (by decide) (hq _ q_300) (fun _ h9 => h9) rfl (ty := .int) rfl rfl rfl (wI Ml 0 7 (Ml.1 0 7)) (by decide) (fvs_setI _ _ _ _ _ _ _ rfl) (fun j _ hj => cof_wI_ne hj) hW dX7_advances_125 (fun H locs hW => ?_)
              obtain ⟨M44, e45, h⟩ := lt_some h
              rw [e45] at hW
              clear e45
              refine lv_aload_n S.1 S.2.1 dX7_advances_128 rfl (lv_at hl 0 rfl) ?_
              refine lv_dup S.1 S.2.1 dX7_advances_129 rfl ?_
              refine fl_get S hK iX7 rfl lM_0 sM_0 4 (by decide) (hq _ q_294) (fun _ h9 => h9) (fvs_I rfl) hW dX7_advances_130 ?_
              refine lv_iconst (v := (1 : Int32)) S.1 S.2.1 dX7_advances_133 (by decide) ?_
              refine lv_iadd S.1 S.2.1 dX7_advances_134 ?_
              refine fl_put S hK hJ hA tyX7 tyX7_ok nmX7 iX7 rfl lM_0 sM_0 4 (by decide) (hq _ q_294) (fun _ h9 => h9) rfl (ty := .int) rfl rfl rfl (wI M44 0 4 ((M44.1 0 4) + (1 : Int32))) (by decide) (fvs_setI _ _ _ _ _ _ _ rfl) (fun j _ hj => cof_wI_ne hj) hW dX7_advances_135 (fun H locs hW => ?_)
              obtain ⟨M46, e47, h⟩ := lt_some h
              rw [e47] at hW
              clear e47
              refine lv_goto (tgt := 71) S.1 S.2.1 dX7_advances_138 (by decide) ?_
              exact ih _ _ h _ _ _ hl hW K
      obtain ⟨M31, u59, h⟩ := bP_some h
      refine L71 50000 _ _ u59 _ _ _ (lv_sub hl [1, 0] rfl) hW (fun H locs ls hl hW => ?_)
      clear L71
      refine lv_aload_n S.1 S.2.1 dX7_advances_141 rfl (lv_at hl 0 rfl) ?_
      refine lv_aload_n S.1 S.2.1 dX7_advances_142 rfl (lv_at hl 0 rfl) ?_
      refine fl_get S hK iX7 rfl lM_0 sM_0 7 (by decide) (hq _ q_300) (fun _ h9 => h9) (fvs_I rfl) hW dX7_advances_143 ?_
      refine lv_bipush (v := (99 : Int32)) S.1 S.2.1 dX7_advances_146 (by decide) ?_
      refine lv_icmp_gt (tgt := 170) S.1 S.2.1 dX7_advances_148 (by decide) (fun c48 => ?_) (fun c48 => ?_)
      · replace h := (if_pos c48).symm.trans h
        refine lv_iconst (v := (4 : Int32)) S.1 S.2.1 dX7_advances_170 (by decide) ?_
        refine lv_goto (tgt := 175) S.1 S.2.1 dX7_advances_171 (by decide) ?_
        refine fl_put S hK hJ hA tyX7 tyX7_ok nmX7 iX7 rfl lM_0 sM_0 5 (by decide) (hq _ q_301) (fun _ h9 => h9) rfl (ty := .int) rfl rfl rfl (wI M31 0 5 (4 : Int32)) (by decide) (fvs_setI _ _ _ _ _ _ _ rfl) (fun j _ hj => cof_wI_ne hj) hW dX7_advances_175 (fun H locs hW => ?_)
        obtain ⟨M49, e50, h⟩ := lt_some h
        rw [e50] at hW
        clear e50
        refine lv_goto (tgt := 222) S.1 S.2.1 dX7_advances_178 (by decide) ?_
        obtain rfl := s1 h
        exact fl_vret S.1 S.2.1 hr hlocks hW dX7_advances_222
      · replace h := (if_neg c48).symm.trans h
        refine lv_iload_n S.1 S.2.1 dX7_advances_151 rfl (lv_at hl 1 rfl) ?_
        refine lv_bipush (v := (48 : Int32)) S.1 S.2.1 dX7_advances_152 (by decide) ?_
        refine lv_icmp_ne (tgt := 174) S.1 S.2.1 dX7_advances_154 (by decide) (fun c51 => ?_) (fun c51 => ?_)
        · replace h := (if_neg c51).symm.trans h
          refine lv_iconst (v := (2 : Int32)) S.1 S.2.1 dX7_advances_174 (by decide) ?_
          refine fl_put S hK hJ hA tyX7 tyX7_ok nmX7 iX7 rfl lM_0 sM_0 5 (by decide) (hq _ q_301) (fun _ h9 => h9) rfl (ty := .int) rfl rfl rfl (wI M31 0 5 (2 : Int32)) (by decide) (fvs_setI _ _ _ _ _ _ _ rfl) (fun j _ hj => cof_wI_ne hj) hW dX7_advances_175 (fun H locs hW => ?_)
          obtain ⟨M57, e58, h⟩ := lt_some h
          rw [e58] at hW
          clear e58
          refine lv_goto (tgt := 222) S.1 S.2.1 dX7_advances_178 (by decide) ?_
          obtain rfl := s1 h
          exact fl_vret S.1 S.2.1 hr hlocks hW dX7_advances_222
        · replace h := (if_pos c51).symm.trans h
          refine lv_aload_n S.1 S.2.1 dX7_advances_157 rfl (lv_at hl 0 rfl) ?_
          refine fl_get S hK iX7 rfl lM_0 sM_0 4 (by decide) (hq _ q_294) (fun _ h9 => h9) (fvs_I rfl) hW dX7_advances_158 ?_
          refine lv_aload_n S.1 S.2.1 dX7_advances_161 rfl (lv_at hl 0 rfl) ?_
          refine fl_get S hK iX7 rfl lM_0 sM_0 6 (by decide) (hq _ q_299) (fun _ h9 => h9) (fvs_I rfl) hW dX7_advances_162 ?_
          refine lv_isub S.1 S.2.1 dX7_advances_165 ?_
          refine lv_iconst (v := (1 : Int32)) S.1 S.2.1 dX7_advances_166 (by decide) ?_
          refine lv_icmp_le (tgt := 174) S.1 S.2.1 dX7_advances_167 (by decide) (fun c52 => ?_) (fun c52 => ?_)
          · replace h := (if_pos c52).symm.trans h
            refine lv_iconst (v := (2 : Int32)) S.1 S.2.1 dX7_advances_174 (by decide) ?_
            refine fl_put S hK hJ hA tyX7 tyX7_ok nmX7 iX7 rfl lM_0 sM_0 5 (by decide) (hq _ q_301) (fun _ h9 => h9) rfl (ty := .int) rfl rfl rfl (wI M31 0 5 (2 : Int32)) (by decide) (fvs_setI _ _ _ _ _ _ _ rfl) (fun j _ hj => cof_wI_ne hj) hW dX7_advances_175 (fun H locs hW => ?_)
            obtain ⟨M53, e54, h⟩ := lt_some h
            rw [e54] at hW
            clear e54
            refine lv_goto (tgt := 222) S.1 S.2.1 dX7_advances_178 (by decide) ?_
            obtain rfl := s1 h
            exact fl_vret S.1 S.2.1 hr hlocks hW dX7_advances_222
          · replace h := (if_neg c52).symm.trans h
            refine lv_iconst (v := (4 : Int32)) S.1 S.2.1 dX7_advances_170 (by decide) ?_
            refine lv_goto (tgt := 175) S.1 S.2.1 dX7_advances_171 (by decide) ?_
            refine fl_put S hK hJ hA tyX7 tyX7_ok nmX7 iX7 rfl lM_0 sM_0 5 (by decide) (hq _ q_301) (fun _ h9 => h9) rfl (ty := .int) rfl rfl rfl (wI M31 0 5 (4 : Int32)) (by decide) (fvs_setI _ _ _ _ _ _ _ rfl) (fun j _ hj => cof_wI_ne hj) hW dX7_advances_175 (fun H locs hW => ?_)
            obtain ⟨M55, e56, h⟩ := lt_some h
            rw [e56] at hW
            clear e56
            refine lv_goto (tgt := 222) S.1 S.2.1 dX7_advances_178 (by decide) ?_
            obtain rfl := s1 h
            exact fl_vret S.1 S.2.1 hr hlocks hW dX7_advances_222
  · replace h := (if_neg c11).symm.trans h
    refine lv_aload_n S.1 S.2.1 dX7_advances_47 rfl (lv_at hl 1 rfl) ?_
    refine lv_iconst (v := (0 : Int32)) S.1 S.2.1 dX7_advances_48 (by decide) ?_
    refine fl_put S hK hJ hA tyX7 tyX7_ok nmX7 iX7 rfl lM_0 sM_0 5 (by decide) (hq _ q_301) (fun _ h9 => h9) rfl (ty := .int) rfl rfl rfl (wI M7 0 5 (0 : Int32)) (by decide) (fvs_setI _ _ _ _ _ _ _ rfl) (fun j _ hj => cof_wI_ne hj) hW dX7_advances_49 (fun H locs hW => ?_)
    obtain ⟨M60, e61, h⟩ := lt_some h
    rw [e61] at hW
    clear e61
    refine lv_goto (tgt := 222) S.1 S.2.1 dX7_advances_52 (by decide) ?_
    obtain rfl := s1 h
    exact fl_vret S.1 S.2.1 hr hlocks hW dX7_advances_222
def fX7_isWell (M : Mm) : Option (Int32) :=
  if 0 ≤ (M.1 0 8) then (some (0 : Int32)) else (some (1 : Int32))
set_option maxHeartbeats 4000000 in
set_option maxRecDepth 100000 in
theorem kX7_isWell (l : Launch) {D : va_G} {cy : Nat → ClassId} {ad : Nat → Nat} (hJ : Inj ad 15)   (M : Mm) (r : Int32) (h : fX7_isWell M = some r) : Met l yX7_isWell vX7_isWell ({ frames := 0, cells := 0, slots := 0, locals := 0 } : Room) (PcF [.ref (ad 0)] D cy ad kdV shM rfM 15 M) (QcI r D cy ad kdV shM rfM 15 M) 0 0 (AV ad 15) := by
  refine Met.ofW (cc := cX7_isWell) (maxL := 1) (ret := (some .boolean)) (by decide) rfl ?_
  intro p e s m args below meth c s₁ B hml hv
  obtain ⟨rfl, hP, hK, hN⟩ := hv
  have hr := B.returns
  have hlocks := B.notSynchronized
  have S : CallFix p m c cX7_isWell 1 s ([.ref (ad 0)] : List Value).toArray vX7_isWell RX7 := ⟨B.exec, B.bytes, hml, findClass_of_methodNamed B.named, atoms_spec (ws := vX7_isWell) B.pre⟩
  have hq : ∀ w ∈ GW, w.before ([.ref (ad 0)] : List Value).toArray s = true := fun w h => S.2.2.2.2 w (List.mem_cons_of_mem _ h)
  have hA : ∀ k, k < 15 → AV ad 15 (ad k) := fun k hk => ⟨k, hk, rfl⟩
  have hW : WSt D cy ad kdV shM rfM 15 (AV ad 15) M s.heap s.heap [] := ⟨hP, va_S.rf⟩
  clear hP
  have iX7 : ∀ w ∈ wsX70, w ∈ vX7_isWell := fun w h => List.mem_cons_of_mem _ (inX7 w h)
  have hl := lv_entry ([.ref (ad 0)]) (n := 1) (Nat.le_of_ble_eq_true rfl)
  rw [lg_entry_eq]
  generalize (lg_sl ([.ref (ad 0)]) ++ List.replicate (1 - (lg_sl ([.ref (ad 0)])).length) Slot.unset).toArray = ls at hl ⊢
  have hl : lv_has ls 1 [(0, .ref (ad 0))] := hl
  rw [fX7_isWell] at h
  refine lv_aload_n S.1 S.2.1 dX7_isWell_0 rfl (lv_at hl 0 rfl) ?_
  refine fl_get S hK iX7 rfl lM_0 sM_0 8 (by decide) (hq _ q_305) (fun _ h9 => h9) (fvs_I rfl) hW dX7_isWell_1 ?_
  refine lv_if_ge (tgt := 11) S.1 S.2.1 dX7_isWell_4 (by decide) (fun c1 => ?_) (fun c1 => ?_)
  · replace h := (if_pos c1).symm.trans h
    refine lv_iconst (v := (0 : Int32)) S.1 S.2.1 dX7_isWell_11 (by decide) ?_
    obtain rfl := s1 h
    exact fl_zret S.1 S.2.1 hr hlocks (Or.inl rfl) hW dX7_isWell_12
  · replace h := (if_neg c1).symm.trans h
    refine lv_iconst (v := (1 : Int32)) S.1 S.2.1 dX7_isWell_7 (by decide) ?_
    refine lv_goto (tgt := 12) S.1 S.2.1 dX7_isWell_8 (by decide) ?_
    obtain rfl := s1 h
    exact fl_zret S.1 S.2.1 hr hlocks (Or.inr rfl) hW dX7_isWell_12
def fX7_takes (p1 : Int32) (M : Mm) : Option (Int32 × Mm) :=
  bP (fX7_isWell M) (fun (v2 : Int32) => if v2 = 0 then (some ((0 : Int32), M)) else (if p1 = 0 then (lt (wI M 0 8 (M.1 0 6)) (fun (M5 : Mm) => some ((0 : Int32), M5))) else (bP (fX7_advances M) (fun (M8 : Mm) => some (M.1 0 7, M8)))))
set_option maxHeartbeats 4000000 in
set_option maxRecDepth 100000 in
theorem kX7_takes (l : Launch) {D : va_G} {cy : Nat → ClassId} {ad : Nat → Nat} (hJ : Inj ad 15)  (p1 : Int32) (M : Mm) (r : Int32) (M' : Mm) (h : fX7_takes p1 M = some (r, M')) : Met l yX7_takes vX7_takes ({ frames := 2, cells := 0, slots := 0, locals := 43 } : Room) (PcF [.ref (ad 0), .int p1] D cy ad kdV shM rfM 15 M) (QcI r D cy ad kdV shM rfM 15 M') 0 0 (AV ad 15) := by
  refine Met.ofW (cc := cX7_takes) (maxL := 3) (ret := (some .int)) (by decide) rfl ?_
  intro p e s m args below meth c s₁ B hml hv
  obtain ⟨rfl, hP, hK, hN⟩ := hv
  have hr := B.returns
  have hlocks := B.notSynchronized
  have S : CallFix p m c cX7_takes 3 s ([.ref (ad 0), .int p1] : List Value).toArray vX7_takes RX7 := ⟨B.exec, B.bytes, hml, findClass_of_methodNamed B.named, atoms_spec (ws := vX7_takes) B.pre⟩
  have hq : ∀ w ∈ GW, w.before ([.ref (ad 0), .int p1] : List Value).toArray s = true := fun w h => S.2.2.2.2 w (List.mem_cons_of_mem _ h)
  have hA : ∀ k, k < 15 → AV ad 15 (ad k) := fun k hk => ⟨k, hk, rfl⟩
  have hW : WSt D cy ad kdV shM rfM 15 (AV ad 15) M s.heap s.heap [] := ⟨hP, va_S.rf⟩
  clear hP
  have iX7 : ∀ w ∈ wsX70, w ∈ vX7_takes := fun w h => List.mem_cons_of_mem _ (inX7 w h)
  have hl := lv_entry ([.ref (ad 0), .int p1]) (n := 3) (Nat.le_of_ble_eq_true rfl)
  rw [lg_entry_eq]
  generalize (lg_sl ([.ref (ad 0), .int p1]) ++ List.replicate (3 - (lg_sl ([.ref (ad 0), .int p1])).length) Slot.unset).toArray = ls at hl ⊢
  have hl : lv_has ls 3 [(0, .ref (ad 0)), (1, .int p1)] := hl
  rw [fX7_takes] at h
  refine lv_aload_n S.1 S.2.1 dX7_takes_0 rfl (lv_at hl 0 rfl) ?_
  obtain ⟨v2, u1, h⟩ := bP_some h
  refine fl_doneI (fl_runV S hK hN (kX7_isWell l hJ M v2 u1) (cwV 0 S.2.2.2.2 (gV q_307 q_308 q_309 q_291 q_306) rfl rfl rfl (by decide +kernel) ⟨Nat.le_of_ble_eq_true rfl, Nat.le_of_ble_eq_true rfl⟩) (ci := 7) rfl lM_0 sM_0 rfl hl.1 rfl (Nat.le_of_ble_eq_true rfl) dX7_takes_1 ⟨Nat.zero_le _, Nat.zero_le _⟩ hW) hA hW.2 (fun H locs hW => ?_)
  refine lv_if_ne (tgt := 9) S.1 S.2.1 dX7_takes_4 (by decide) (fun c3 => ?_) (fun c3 => ?_)
  · replace h := (if_neg c3).symm.trans h
    refine lv_iload_n S.1 S.2.1 dX7_takes_9 rfl (lv_at hl 1 rfl) ?_
    refine lv_if_ne (tgt := 23) S.1 S.2.1 dX7_takes_10 (by decide) (fun c4 => ?_) (fun c4 => ?_)
    · replace h := (if_neg c4).symm.trans h
      refine lv_aload_n S.1 S.2.1 dX7_takes_23 rfl (lv_at hl 0 rfl) ?_
      refine fl_get S hK iX7 rfl lM_0 sM_0 7 (by decide) (hq _ q_300) (fun _ h9 => h9) (fvs_I rfl) hW dX7_takes_24 ?_
      refine lv_istore_n (lv' := [(2, .int (M.1 0 7)), (0, .ref (ad 0)), (1, .int p1)]) S.1 S.2.1 dX7_takes_27 rfl hl (by decide) rfl (fun ls hl => ?_)
      refine lv_aload_n S.1 S.2.1 dX7_takes_28 rfl (lv_at hl 1 rfl) ?_
      obtain ⟨M8, u7, h⟩ := bP_some h
      refine fl_doneV (fl_runV S hK hN (kX7_advances l hJ M M8 u7) (cwV 0 S.2.2.2.2 (gV q_311 q_312 q_313 q_291 q_310) rfl rfl rfl (by decide +kernel) ⟨Nat.le_of_ble_eq_true rfl, Nat.le_of_ble_eq_true rfl⟩) (ci := 7) rfl lM_0 sM_0 rfl hl.1 rfl (Nat.le_of_ble_eq_true rfl) dX7_takes_29 ⟨Nat.zero_le _, Nat.zero_le _⟩ hW) hA hW.2 (fun H locs hW => ?_)
      refine lv_iload_n S.1 S.2.1 dX7_takes_32 rfl (lv_at hl 0 rfl) ?_
      obtain ⟨rfl, rfl⟩ := s2 h
      exact fl_iret S.1 S.2.1 hr hlocks hW dX7_takes_33
    · replace h := (if_pos c4).symm.trans h
      refine lv_aload_n S.1 S.2.1 dX7_takes_13 rfl (lv_at hl 0 rfl) ?_
      refine lv_aload_n S.1 S.2.1 dX7_takes_14 rfl (lv_at hl 0 rfl) ?_
      refine fl_get S hK iX7 rfl lM_0 sM_0 6 (by decide) (hq _ q_299) (fun _ h9 => h9) (fvs_I rfl) hW dX7_takes_15 ?_
      refine fl_put S hK hJ hA tyX7 tyX7_ok nmX7 iX7 rfl lM_0 sM_0 8 (by decide) (hq _ q_305) (fun _ h9 => h9) rfl (ty := .int) rfl rfl rfl (wI M 0 8 (M.1 0 6)) (by decide) (fvs_setI _ _ _ _ _ _ _ rfl) (fun j _ hj => cof_wI_ne hj) hW dX7_takes_18 (fun H locs hW => ?_)
      obtain ⟨M5, e6, h⟩ := lt_some h
      rw [e6] at hW
      clear e6
      refine lv_iconst (v := (0 : Int32)) S.1 S.2.1 dX7_takes_21 (by decide) ?_
      obtain ⟨rfl, rfl⟩ := s2 h
      exact fl_iret S.1 S.2.1 hr hlocks hW dX7_takes_22
  · replace h := (if_pos c3).symm.trans h
    refine lv_iconst (v := (0 : Int32)) S.1 S.2.1 dX7_takes_7 (by decide) ?_
    obtain ⟨rfl, rfl⟩ := s2 h
    exact fl_iret S.1 S.2.1 hr hlocks hW dX7_takes_8
def fX7_number (p1 : Int32) (p2 : Int32) (M : Mm) : Option (Int32 × Mm) :=
  bP (if (M.1 0 5) = (2 : Int32) then (bP (fX7_in (M.1 0 7) p1 p2) (fun (v5 : Int32) => if v5 = 0 then (some (0 : Int32)) else (some (1 : Int32)))) else (some (0 : Int32))) (fun (j2 : Int32) => b2 (fX7_takes j2 M) (fun (v8 : Int32) (M9 : Mm) => some (v8, M9)))
set_option maxHeartbeats 4000000 in
set_option maxRecDepth 100000 in
theorem kX7_number (l : Launch) {D : va_G} {cy : Nat → ClassId} {ad : Nat → Nat} (hJ : Inj ad 15)  (p1 : Int32) (p2 : Int32) (M : Mm) (r : Int32) (M' : Mm) (h : fX7_number p1 p2 M = some (r, M')) : Met l yX7_number vX7_number ({ frames := 3, cells := 0, slots := 0, locals := 65 } : Room) (PcF [.ref (ad 0), .int p1, .int p2] D cy ad kdV shM rfM 15 M) (QcI r D cy ad kdV shM rfM 15 M') 0 0 (AV ad 15) := by
  refine Met.ofW (cc := cX7_number) (maxL := 3) (ret := (some .int)) (by decide) rfl ?_
  intro p e s m args below meth c s₁ B hml hv
  obtain ⟨rfl, hP, hK, hN⟩ := hv
  have hr := B.returns
  have hlocks := B.notSynchronized
  have S : CallFix p m c cX7_number 3 s ([.ref (ad 0), .int p1, .int p2] : List Value).toArray vX7_number RX7 := ⟨B.exec, B.bytes, hml, findClass_of_methodNamed B.named, atoms_spec (ws := vX7_number) B.pre⟩
  have hq : ∀ w ∈ GW, w.before ([.ref (ad 0), .int p1, .int p2] : List Value).toArray s = true := fun w h => S.2.2.2.2 w (List.mem_cons_of_mem _ h)
  have hA : ∀ k, k < 15 → AV ad 15 (ad k) := fun k hk => ⟨k, hk, rfl⟩
  have hW : WSt D cy ad kdV shM rfM 15 (AV ad 15) M s.heap s.heap [] := ⟨hP, va_S.rf⟩
  clear hP
  have iX7 : ∀ w ∈ wsX70, w ∈ vX7_number := fun w h => List.mem_cons_of_mem _ (inX7 w h)
  have hl := lv_entry ([.ref (ad 0), .int p1, .int p2]) (n := 3) (Nat.le_of_ble_eq_true rfl)
  rw [lg_entry_eq]
  generalize (lg_sl ([.ref (ad 0), .int p1, .int p2]) ++ List.replicate (3 - (lg_sl ([.ref (ad 0), .int p1, .int p2])).length) Slot.unset).toArray = ls at hl ⊢
  have hl : lv_has ls 3 [(0, .ref (ad 0)), (1, .int p1), (2, .int p2)] := hl
  rw [fX7_number] at h
  refine lv_aload_n S.1 S.2.1 dX7_number_0 rfl (lv_at hl 0 rfl) ?_
  refine lv_aload_n S.1 S.2.1 dX7_number_1 rfl (lv_at hl 0 rfl) ?_
  refine fl_get S hK iX7 rfl lM_0 sM_0 5 (by decide) (hq _ q_301) (fun _ h9 => h9) (fvs_I rfl) hW dX7_number_2 ?_
  refine lv_iconst (v := (2 : Int32)) S.1 S.2.1 dX7_number_5 (by decide) ?_
  obtain ⟨j2, u10, h⟩ := bP_some h
  have J3 : ∀ (H : Heap) (locs : List Loc) (ls : Array Slot), lv_has ls 3 [(0, .ref (ad 0)), (1, .int p1), (2, .int p2)] → WSt D cy ad kdV shM rfM 15 (AV ad 15) M s.heap H locs → W p l e (headSpec vX7_number ({ frames := 3, cells := 0, slots := 0, locals := 65 } : Room)).room s m ([.ref (ad 0), .int p1, .int p2] : List Value).toArray below meth c H locs 0 0 (MQ below (QcI r D cy ad kdV shM rfM 15 M') ([.ref (ad 0), .int p1, .int p2] : List Value).toArray s 0 0 (AV ad 15)) (F0 m 26 ls [.int j2, .ref (ad 0)]) := by
    intro H locs ls hl hW
    obtain ⟨v8, M9, u7, h⟩ := b2_some h
    refine fl_doneI (fl_runV S hK hN (kX7_takes l hJ j2 M v8 M9 u7) (cwV 1 S.2.2.2.2 (gV q_315 q_316 q_317 q_291 q_314) rfl rfl rfl (by decide +kernel) ⟨Nat.le_of_ble_eq_true rfl, Nat.le_of_ble_eq_true rfl⟩) (ci := 7) rfl lM_0 sM_0 rfl hl.1 rfl (Nat.le_of_ble_eq_true rfl) dX7_number_26 ⟨Nat.zero_le _, Nat.zero_le _⟩ hW) hA hW.2 (fun H locs hW => ?_)
    obtain ⟨rfl, rfl⟩ := s2 h
    exact fl_iret S.1 S.2.1 hr hlocks hW dX7_number_29
  clear h
  have h := u10
  clear u10
  refine lv_icmp_ne (tgt := 25) S.1 S.2.1 dX7_number_6 (by decide) (fun c1 => ?_) (fun c1 => ?_)
  · replace h := (if_neg c1).symm.trans h
    refine lv_iconst (v := (0 : Int32)) S.1 S.2.1 dX7_number_25 (by decide) ?_
    obtain rfl := s1 h
    exact J3 _ _ _ hl hW
  · replace h := (if_pos c1).symm.trans h
    refine lv_aload_n S.1 S.2.1 dX7_number_9 rfl (lv_at hl 0 rfl) ?_
    refine fl_get S hK iX7 rfl lM_0 sM_0 7 (by decide) (hq _ q_300) (fun _ h9 => h9) (fvs_I rfl) hW dX7_number_10 ?_
    refine lv_iload_n S.1 S.2.1 dX7_number_13 rfl (lv_at hl 1 rfl) ?_
    refine lv_iload_n S.1 S.2.1 dX7_number_14 rfl (lv_at hl 2 rfl) ?_
    obtain ⟨v5, u4, h⟩ := bP_some h
    refine fl_doneP (fl_runS S (kX7_in l (M.1 0 7) p1 p2 v5 u4) (va_cwS 3 S.2.2.2.2 (gS q_289 q_290 q_291 q_288) rfl rfl rfl (by decide +kernel) ⟨Nat.le_of_ble_eq_true rfl, Nat.le_of_ble_eq_true rfl⟩) rfl hl.1 rfl (Nat.le_of_ble_eq_true rfl) dX7_number_15 ⟨Nat.zero_le _, Nat.zero_le _⟩) hW (fun H locs hW => ?_)
    refine lv_if_eq (tgt := 25) S.1 S.2.1 dX7_number_18 (by decide) (fun c6 => ?_) (fun c6 => ?_)
    · replace h := (if_pos c6).symm.trans h
      refine lv_iconst (v := (0 : Int32)) S.1 S.2.1 dX7_number_25 (by decide) ?_
      obtain rfl := s1 h
      exact J3 _ _ _ hl hW
    · replace h := (if_neg c6).symm.trans h
      refine lv_iconst (v := (1 : Int32)) S.1 S.2.1 dX7_number_21 (by decide) ?_
      refine lv_goto (tgt := 26) S.1 S.2.1 dX7_number_22 (by decide) ?_
      obtain rfl := s1 h
      exact J3 _ _ _ hl hW
def fX7_begins (M : Mm) : Option (Mm) :=
  lt (wI M 0 9 (0 : Int32)) (fun (M1 : Mm) => lt (wI M1 2 ((4 : Int32)).toNatClampNeg (0 : Int32)) (fun (M3 : Mm) => lt (wI M3 2 ((5 : Int32)).toNatClampNeg (3 : Int32)) (fun (M5 : Mm) => lt (wI M5 2 ((6 : Int32)).toNatClampNeg (0 : Int32)) (fun (M7 : Mm) => lt (wI M7 2 ((7 : Int32)).toNatClampNeg (70 : Int32)) (fun (M9 : Mm) => some M9)))))
set_option maxHeartbeats 4000000 in
set_option maxRecDepth 100000 in
theorem kX7_begins (l : Launch) {D : va_G} {cy : Nat → ClassId} {ad : Nat → Nat} (hJ : Inj ad 15)   (M : Mm) (M' : Mm) (h : fX7_begins M = some M') : Met l yX7_begins vX7_begins ({ frames := 0, cells := 0, slots := 0, locals := 0 } : Room) (PcF [.ref (ad 0)] D cy ad kdV shM rfM 15 M) (QcV D cy ad kdV shM rfM 15 M') 0 0 (AV ad 15) := by
  refine Met.ofW (cc := cX7_begins) (maxL := 1) (ret := none) (by decide) rfl ?_
  intro p e s m args below meth c s₁ B hml hv
  obtain ⟨rfl, hP, hK, hN⟩ := hv
  have hr := B.returns
  have hlocks := B.notSynchronized
  have S : CallFix p m c cX7_begins 1 s ([.ref (ad 0)] : List Value).toArray vX7_begins RX7 := ⟨B.exec, B.bytes, hml, findClass_of_methodNamed B.named, atoms_spec (ws := vX7_begins) B.pre⟩
  have hq : ∀ w ∈ GW, w.before ([.ref (ad 0)] : List Value).toArray s = true := fun w h => S.2.2.2.2 w (List.mem_cons_of_mem _ h)
  have hA : ∀ k, k < 15 → AV ad 15 (ad k) := fun k hk => ⟨k, hk, rfl⟩
  have hW : WSt D cy ad kdV shM rfM 15 (AV ad 15) M s.heap s.heap [] := ⟨hP, va_S.rf⟩
  clear hP
  have iX7 : ∀ w ∈ wsX70, w ∈ vX7_begins := fun w h => List.mem_cons_of_mem _ (inX7 w h)
  have hl := lv_entry ([.ref (ad 0)]) (n := 1) (Nat.le_of_ble_eq_true rfl)
  rw [lg_entry_eq]
  generalize (lg_sl ([.ref (ad 0)]) ++ List.replicate (1 - (lg_sl ([.ref (ad 0)])).length) Slot.unset).toArray = ls at hl ⊢
  have hl : lv_has ls 1 [(0, .ref (ad 0))] := hl
  rw [fX7_begins] at h
  refine lv_aload_n S.1 S.2.1 dX7_begins_0 rfl (lv_at hl 0 rfl) ?_
  refine lv_iconst (v := (0 : Int32)) S.1 S.2.1 dX7_begins_1 (by decide) ?_
  refine fl_put S hK hJ hA tyX7 tyX7_ok nmX7 iX7 rfl lM_0 sM_0 9 (by decide) (hq _ q_318) (fun _ h9 => h9) rfl (ty := .int) rfl rfl rfl (wI M 0 9 (0 : Int32)) (by decide) (fvs_setI _ _ _ _ _ _ _ rfl) (fun j _ hj => cof_wI_ne hj) hW dX7_begins_2 (fun H locs hW => ?_)
  obtain ⟨M1, e2, h⟩ := lt_some h
  rw [e2] at hW
  clear e2
  refine lv_aload_n S.1 S.2.1 dX7_begins_5 rfl (lv_at hl 0 rfl) ?_
  refine fl_get S hK iX7 rfl lM_0 sM_0 10 (by decide) (hq _ q_319) (fun _ h9 => h9) (fvs_R rfl rfl) hW dX7_begins_6 ?_
  refine lv_iconst (v := (4 : Int32)) S.1 S.2.1 dX7_begins_9 (by decide) ?_
  refine lv_iconst (v := (0 : Int32)) S.1 S.2.1 dX7_begins_10 (by decide) ?_
  refine fl_iast S hK hJ hA lM_2 sM_2 (vp_dec (i := (4 : Int32)) (n := 8) (by decide)) hW dX7_begins_11 (fun H locs hW => ?_)
  obtain ⟨M3, e4, h⟩ := lt_some h
  rw [e4] at hW
  clear e4
  refine lv_aload_n S.1 S.2.1 dX7_begins_12 rfl (lv_at hl 0 rfl) ?_
  refine fl_get S hK iX7 rfl lM_0 sM_0 10 (by decide) (hq _ q_319) (fun _ h9 => h9) (fvs_R rfl rfl) hW dX7_begins_13 ?_
  refine lv_iconst (v := (5 : Int32)) S.1 S.2.1 dX7_begins_16 (by decide) ?_
  refine lv_iconst (v := (3 : Int32)) S.1 S.2.1 dX7_begins_17 (by decide) ?_
  refine fl_iast S hK hJ hA lM_2 sM_2 (vp_dec (i := (5 : Int32)) (n := 8) (by decide)) hW dX7_begins_18 (fun H locs hW => ?_)
  obtain ⟨M5, e6, h⟩ := lt_some h
  rw [e6] at hW
  clear e6
  refine lv_aload_n S.1 S.2.1 dX7_begins_19 rfl (lv_at hl 0 rfl) ?_
  refine fl_get S hK iX7 rfl lM_0 sM_0 10 (by decide) (hq _ q_319) (fun _ h9 => h9) (fvs_R rfl rfl) hW dX7_begins_20 ?_
  refine lv_bipush (v := (6 : Int32)) S.1 S.2.1 dX7_begins_23 (by decide) ?_
  refine lv_iconst (v := (0 : Int32)) S.1 S.2.1 dX7_begins_25 (by decide) ?_
  refine fl_iast S hK hJ hA lM_2 sM_2 (vp_dec (i := (6 : Int32)) (n := 8) (by decide)) hW dX7_begins_26 (fun H locs hW => ?_)
  obtain ⟨M7, e8, h⟩ := lt_some h
  rw [e8] at hW
  clear e8
  refine lv_aload_n S.1 S.2.1 dX7_begins_27 rfl (lv_at hl 0 rfl) ?_
  refine fl_get S hK iX7 rfl lM_0 sM_0 10 (by decide) (hq _ q_319) (fun _ h9 => h9) (fvs_R rfl rfl) hW dX7_begins_28 ?_
  refine lv_bipush (v := (7 : Int32)) S.1 S.2.1 dX7_begins_31 (by decide) ?_
  refine lv_bipush (v := (70 : Int32)) S.1 S.2.1 dX7_begins_33 (by decide) ?_
  refine fl_iast S hK hJ hA lM_2 sM_2 (vp_dec (i := (7 : Int32)) (n := 8) (by decide)) hW dX7_begins_35 (fun H locs hW => ?_)
  obtain ⟨M9, e10, h⟩ := lt_some h
  rw [e10] at hW
  clear e10
  obtain rfl := s1 h
  exact fl_vret S.1 S.2.1 hr hlocks hW dX7_begins_36
def fX7_mayBegin (M : Mm) : Option (Int32) :=
  if (M.1 0 7) = (97 : Int32) then (if (M.1 0 7) = (97 : Int32) then (if (6 : Int32) ≤ (M.1 2 ((4 : Int32)).toNatClampNeg) then (some (0 : Int32)) else (some (1 : Int32))) else (if (5 : Int32) ≤ (M.1 2 ((6 : Int32)).toNatClampNeg) then (some (0 : Int32)) else (some (1 : Int32)))) else (if (M.1 0 7) = (119 : Int32) then (if (M.1 0 7) = (97 : Int32) then (if (6 : Int32) ≤ (M.1 2 ((4 : Int32)).toNatClampNeg) then (some (0 : Int32)) else (some (1 : Int32))) else (if (5 : Int32) ≤ (M.1 2 ((6 : Int32)).toNatClampNeg) then (some (0 : Int32)) else (some (1 : Int32)))) else (if (M.1 0 7) = (109 : Int32) then (if ((M.1 0 9) &&& (1 : Int32)) = 0 then (some (1 : Int32)) else (some (0 : Int32))) else (if ((M.1 0 9) &&& (2 : Int32)) = 0 then (some (1 : Int32)) else (some (0 : Int32)))))
set_option maxHeartbeats 4000000 in
set_option maxRecDepth 100000 in
theorem kX7_mayBegin (l : Launch) {D : va_G} {cy : Nat → ClassId} {ad : Nat → Nat} (hJ : Inj ad 15)   (M : Mm) (r : Int32) (h : fX7_mayBegin M = some r) : Met l yX7_mayBegin vX7_mayBegin ({ frames := 0, cells := 0, slots := 0, locals := 0 } : Room) (PcF [.ref (ad 0)] D cy ad kdV shM rfM 15 M) (QcI r D cy ad kdV shM rfM 15 M) 0 0 (AV ad 15) := by
  refine Met.ofW (cc := cX7_mayBegin) (maxL := 1) (ret := (some .boolean)) (by decide) rfl ?_
  intro p e s m args below meth c s₁ B hml hv
  obtain ⟨rfl, hP, hK, hN⟩ := hv
  have hr := B.returns
  have hlocks := B.notSynchronized
  have S : CallFix p m c cX7_mayBegin 1 s ([.ref (ad 0)] : List Value).toArray vX7_mayBegin RX7 := ⟨B.exec, B.bytes, hml, findClass_of_methodNamed B.named, atoms_spec (ws := vX7_mayBegin) B.pre⟩
  have hq : ∀ w ∈ GW, w.before ([.ref (ad 0)] : List Value).toArray s = true := fun w h => S.2.2.2.2 w (List.mem_cons_of_mem _ h)
  have hA : ∀ k, k < 15 → AV ad 15 (ad k) := fun k hk => ⟨k, hk, rfl⟩
  have hW : WSt D cy ad kdV shM rfM 15 (AV ad 15) M s.heap s.heap [] := ⟨hP, va_S.rf⟩
  clear hP
  have iX7 : ∀ w ∈ wsX70, w ∈ vX7_mayBegin := fun w h => List.mem_cons_of_mem _ (inX7 w h)
  have hl := lv_entry ([.ref (ad 0)]) (n := 1) (Nat.le_of_ble_eq_true rfl)
  rw [lg_entry_eq]
  generalize (lg_sl ([.ref (ad 0)]) ++ List.replicate (1 - (lg_sl ([.ref (ad 0)])).length) Slot.unset).toArray = ls at hl ⊢
  have hl : lv_has ls 1 [(0, .ref (ad 0))] := hl
  rw [fX7_mayBegin] at h
  refine lv_aload_n S.1 S.2.1 dX7_mayBegin_0 rfl (lv_at hl 0 rfl) ?_
  refine fl_get S hK iX7 rfl lM_0 sM_0 7 (by decide) (hq _ q_300) (fun _ h9 => h9) (fvs_I rfl) hW dX7_mayBegin_1 ?_
  refine lv_bipush (v := (97 : Int32)) S.1 S.2.1 dX7_mayBegin_4 (by decide) ?_
  refine lv_icmp_eq (tgt := 18) S.1 S.2.1 dX7_mayBegin_6 (by decide) (fun c1 => ?_) (fun c1 => ?_)
  · replace h := (if_pos c1).symm.trans h
    refine lv_aload_n S.1 S.2.1 dX7_mayBegin_18 rfl (lv_at hl 0 rfl) ?_
    refine fl_get S hK iX7 rfl lM_0 sM_0 7 (by decide) (hq _ q_300) (fun _ h9 => h9) (fvs_I rfl) hW dX7_mayBegin_19 ?_
    refine lv_bipush (v := (97 : Int32)) S.1 S.2.1 dX7_mayBegin_22 (by decide) ?_
    refine lv_icmp_ne (tgt := 46) S.1 S.2.1 dX7_mayBegin_24 (by decide) (fun c2 => ?_) (fun c2 => ?_)
    · replace h := (if_neg c2).symm.trans h
      refine lv_aload_n S.1 S.2.1 dX7_mayBegin_46 rfl (lv_at hl 0 rfl) ?_
      refine fl_get S hK iX7 rfl lM_0 sM_0 10 (by decide) (hq _ q_319) (fun _ h9 => h9) (fvs_R rfl rfl) hW dX7_mayBegin_47 ?_
      refine lv_bipush (v := (6 : Int32)) S.1 S.2.1 dX7_mayBegin_50 (by decide) ?_
      refine fl_iald S hK lM_2 sM_2 (vp_dec (i := (6 : Int32)) (n := 8) (by decide)) hW dX7_mayBegin_52 ?_
      refine lv_iconst (v := (5 : Int32)) S.1 S.2.1 dX7_mayBegin_53 (by decide) ?_
      refine lv_icmp_ge (tgt := 61) S.1 S.2.1 dX7_mayBegin_54 (by decide) (fun c4 => ?_) (fun c4 => ?_)
      · replace h := (if_pos c4).symm.trans h
        refine lv_iconst (v := (0 : Int32)) S.1 S.2.1 dX7_mayBegin_61 (by decide) ?_
        obtain rfl := s1 h
        exact fl_zret S.1 S.2.1 hr hlocks (Or.inl rfl) hW dX7_mayBegin_62
      · replace h := (if_neg c4).symm.trans h
        refine lv_iconst (v := (1 : Int32)) S.1 S.2.1 dX7_mayBegin_57 (by decide) ?_
        refine lv_goto (tgt := 62) S.1 S.2.1 dX7_mayBegin_58 (by decide) ?_
        obtain rfl := s1 h
        exact fl_zret S.1 S.2.1 hr hlocks (Or.inr rfl) hW dX7_mayBegin_62
    · replace h := (if_pos c2).symm.trans h
      refine lv_aload_n S.1 S.2.1 dX7_mayBegin_27 rfl (lv_at hl 0 rfl) ?_
      refine fl_get S hK iX7 rfl lM_0 sM_0 10 (by decide) (hq _ q_319) (fun _ h9 => h9) (fvs_R rfl rfl) hW dX7_mayBegin_28 ?_
      refine lv_iconst (v := (4 : Int32)) S.1 S.2.1 dX7_mayBegin_31 (by decide) ?_
      refine fl_iald S hK lM_2 sM_2 (vp_dec (i := (4 : Int32)) (n := 8) (by decide)) hW dX7_mayBegin_32 ?_
      refine lv_bipush (v := (6 : Int32)) S.1 S.2.1 dX7_mayBegin_33 (by decide) ?_
      refine lv_icmp_ge (tgt := 42) S.1 S.2.1 dX7_mayBegin_35 (by decide) (fun c3 => ?_) (fun c3 => ?_)
      · replace h := (if_pos c3).symm.trans h
        refine lv_iconst (v := (0 : Int32)) S.1 S.2.1 dX7_mayBegin_42 (by decide) ?_
        refine lv_goto (tgt := 62) S.1 S.2.1 dX7_mayBegin_43 (by decide) ?_
        obtain rfl := s1 h
        exact fl_zret S.1 S.2.1 hr hlocks (Or.inl rfl) hW dX7_mayBegin_62
      · replace h := (if_neg c3).symm.trans h
        refine lv_iconst (v := (1 : Int32)) S.1 S.2.1 dX7_mayBegin_38 (by decide) ?_
        refine lv_goto (tgt := 62) S.1 S.2.1 dX7_mayBegin_39 (by decide) ?_
        obtain rfl := s1 h
        exact fl_zret S.1 S.2.1 hr hlocks (Or.inr rfl) hW dX7_mayBegin_62
  · replace h := (if_neg c1).symm.trans h
    refine lv_aload_n S.1 S.2.1 dX7_mayBegin_9 rfl (lv_at hl 0 rfl) ?_
    refine fl_get S hK iX7 rfl lM_0 sM_0 7 (by decide) (hq _ q_300) (fun _ h9 => h9) (fvs_I rfl) hW dX7_mayBegin_10 ?_
    refine lv_bipush (v := (119 : Int32)) S.1 S.2.1 dX7_mayBegin_13 (by decide) ?_
    refine lv_icmp_ne (tgt := 63) S.1 S.2.1 dX7_mayBegin_15 (by decide) (fun c5 => ?_) (fun c5 => ?_)
    · replace h := (if_neg c5).symm.trans h
      refine lv_aload_n S.1 S.2.1 dX7_mayBegin_63 rfl (lv_at hl 0 rfl) ?_
      refine fl_get S hK iX7 rfl lM_0 sM_0 9 (by decide) (hq _ q_318) (fun _ h9 => h9) (fvs_I rfl) hW dX7_mayBegin_64 ?_
      refine lv_aload_n S.1 S.2.1 dX7_mayBegin_67 rfl (lv_at hl 0 rfl) ?_
      refine fl_get S hK iX7 rfl lM_0 sM_0 7 (by decide) (hq _ q_300) (fun _ h9 => h9) (fvs_I rfl) hW dX7_mayBegin_68 ?_
      refine lv_bipush (v := (109 : Int32)) S.1 S.2.1 dX7_mayBegin_71 (by decide) ?_
      refine lv_icmp_ne (tgt := 80) S.1 S.2.1 dX7_mayBegin_73 (by decide) (fun c9 => ?_) (fun c9 => ?_)
      · replace h := (if_neg c9).symm.trans h
        refine lv_iconst (v := (2 : Int32)) S.1 S.2.1 dX7_mayBegin_80 (by decide) ?_
        refine lv_iand S.1 S.2.1 dX7_mayBegin_81 ?_
        refine lv_if_ne (tgt := 89) S.1 S.2.1 dX7_mayBegin_82 (by decide) (fun c11 => ?_) (fun c11 => ?_)
        · replace h := (if_neg c11).symm.trans h
          refine lv_iconst (v := (0 : Int32)) S.1 S.2.1 dX7_mayBegin_89 (by decide) ?_
          obtain rfl := s1 h
          exact fl_zret S.1 S.2.1 hr hlocks (Or.inl rfl) hW dX7_mayBegin_90
        · replace h := (if_pos c11).symm.trans h
          refine lv_iconst (v := (1 : Int32)) S.1 S.2.1 dX7_mayBegin_85 (by decide) ?_
          refine lv_goto (tgt := 90) S.1 S.2.1 dX7_mayBegin_86 (by decide) ?_
          obtain rfl := s1 h
          exact fl_zret S.1 S.2.1 hr hlocks (Or.inr rfl) hW dX7_mayBegin_90
      · replace h := (if_pos c9).symm.trans h
        refine lv_iconst (v := (1 : Int32)) S.1 S.2.1 dX7_mayBegin_76 (by decide) ?_
        refine lv_goto (tgt := 81) S.1 S.2.1 dX7_mayBegin_77 (by decide) ?_
        refine lv_iand S.1 S.2.1 dX7_mayBegin_81 ?_
        refine lv_if_ne (tgt := 89) S.1 S.2.1 dX7_mayBegin_82 (by decide) (fun c10 => ?_) (fun c10 => ?_)
        · replace h := (if_neg c10).symm.trans h
          refine lv_iconst (v := (0 : Int32)) S.1 S.2.1 dX7_mayBegin_89 (by decide) ?_
          obtain rfl := s1 h
          exact fl_zret S.1 S.2.1 hr hlocks (Or.inl rfl) hW dX7_mayBegin_90
        · replace h := (if_pos c10).symm.trans h
          refine lv_iconst (v := (1 : Int32)) S.1 S.2.1 dX7_mayBegin_85 (by decide) ?_
          refine lv_goto (tgt := 90) S.1 S.2.1 dX7_mayBegin_86 (by decide) ?_
          obtain rfl := s1 h
          exact fl_zret S.1 S.2.1 hr hlocks (Or.inr rfl) hW dX7_mayBegin_90
    · replace h := (if_pos c5).symm.trans h
      refine lv_aload_n S.1 S.2.1 dX7_mayBegin_18 rfl (lv_at hl 0 rfl) ?_
      refine fl_get S hK iX7 rfl lM_0 sM_0 7 (by decide) (hq _ q_300) (fun _ h9 => h9) (fvs_I rfl) hW dX7_mayBegin_19 ?_
      refine lv_bipush (v := (97 : Int32)) S.1 S.2.1 dX7_mayBegin_22 (by decide) ?_
      refine lv_icmp_ne (tgt := 46) S.1 S.2.1 dX7_mayBegin_24 (by decide) (fun c6 => ?_) (fun c6 => ?_)
      · replace h := (if_neg c6).symm.trans h
        refine lv_aload_n S.1 S.2.1 dX7_mayBegin_46 rfl (lv_at hl 0 rfl) ?_
        refine fl_get S hK iX7 rfl lM_0 sM_0 10 (by decide) (hq _ q_319) (fun _ h9 => h9) (fvs_R rfl rfl) hW dX7_mayBegin_47 ?_
        refine lv_bipush (v := (6 : Int32)) S.1 S.2.1 dX7_mayBegin_50 (by decide) ?_
        refine fl_iald S hK lM_2 sM_2 (vp_dec (i := (6 : Int32)) (n := 8) (by decide)) hW dX7_mayBegin_52 ?_
        refine lv_iconst (v := (5 : Int32)) S.1 S.2.1 dX7_mayBegin_53 (by decide) ?_
        refine lv_icmp_ge (tgt := 61) S.1 S.2.1 dX7_mayBegin_54 (by decide) (fun c8 => ?_) (fun c8 => ?_)
        · replace h := (if_pos c8).symm.trans h
          refine lv_iconst (v := (0 : Int32)) S.1 S.2.1 dX7_mayBegin_61 (by decide) ?_
          obtain rfl := s1 h
          exact fl_zret S.1 S.2.1 hr hlocks (Or.inl rfl) hW dX7_mayBegin_62
        · replace h := (if_neg c8).symm.trans h
          refine lv_iconst (v := (1 : Int32)) S.1 S.2.1 dX7_mayBegin_57 (by decide) ?_
          refine lv_goto (tgt := 62) S.1 S.2.1 dX7_mayBegin_58 (by decide) ?_
          obtain rfl := s1 h
          exact fl_zret S.1 S.2.1 hr hlocks (Or.inr rfl) hW dX7_mayBegin_62
      · replace h := (if_pos c6).symm.trans h
        refine lv_aload_n S.1 S.2.1 dX7_mayBegin_27 rfl (lv_at hl 0 rfl) ?_
        refine fl_get S hK iX7 rfl lM_0 sM_0 10 (by decide) (hq _ q_319) (fun _ h9 => h9) (fvs_R rfl rfl) hW dX7_mayBegin_28 ?_
        refine lv_iconst (v := (4 : Int32)) S.1 S.2.1 dX7_mayBegin_31 (by decide) ?_
        refine fl_iald S hK lM_2 sM_2 (vp_dec (i := (4 : Int32)) (n := 8) (by decide)) hW dX7_mayBegin_32 ?_
        refine lv_bipush (v := (6 : Int32)) S.1 S.2.1 dX7_mayBegin_33 (by decide) ?_
        refine lv_icmp_ge (tgt := 42) S.1 S.2.1 dX7_mayBegin_35 (by decide) (fun c7 => ?_) (fun c7 => ?_)
        · replace h := (if_pos c7).symm.trans h
          refine lv_iconst (v := (0 : Int32)) S.1 S.2.1 dX7_mayBegin_42 (by decide) ?_
          refine lv_goto (tgt := 62) S.1 S.2.1 dX7_mayBegin_43 (by decide) ?_
          obtain rfl := s1 h
          exact fl_zret S.1 S.2.1 hr hlocks (Or.inl rfl) hW dX7_mayBegin_62
        · replace h := (if_neg c7).symm.trans h
          refine lv_iconst (v := (1 : Int32)) S.1 S.2.1 dX7_mayBegin_38 (by decide) ?_
          refine lv_goto (tgt := 62) S.1 S.2.1 dX7_mayBegin_39 (by decide) ?_
          obtain rfl := s1 h
          exact fl_zret S.1 S.2.1 hr hlocks (Or.inr rfl) hW dX7_mayBegin_62
def fX7_readsItem (p1 : Int32) (M : Mm) : Option (Mm) :=
  if p1 = (97 : Int32) then (b2 (fX7_number (0 : Int32) (99 : Int32) M) (fun (v3 : Int32) (M4 : Mm) => ix (M.1 2 ((4 : Int32)).toNatClampNeg) 6 (lt (wI M4 3 (M.1 2 ((4 : Int32)).toNatClampNeg).toNatClampNeg v3) (fun (M6 : Mm) => lt (wI M6 2 ((4 : Int32)).toNatClampNeg ((M6.1 2 ((4 : Int32)).toNatClampNeg) + (1 : Int32))) (fun (M8 : Mm) => some M8))))) else (if p1 = (119 : Int32) then (b2 (fX7_number (0 : Int32) (99 : Int32) M) (fun (v12 : Int32) (M13 : Mm) => ix ((5 : Int32) + (M.1 2 ((6 : Int32)).toNatClampNeg)) 10 (lt (wI M13 4 ((5 : Int32) + (M.1 2 ((6 : Int32)).toNatClampNeg)).toNatClampNeg v12) (fun (M15 : Mm) => ix ((5 : Int32) + (M.1 2 ((6 : Int32)).toNatClampNeg)) 10 (b2 (fX7_number (M15.1 4 ((5 : Int32) + (M.1 2 ((6 : Int32)).toNatClampNeg)).toNatClampNeg) (99 : Int32) M15) (fun (v19 : Int32) (M20 : Mm) => ix ((5 : Int32) + (M.1 2 ((6 : Int32)).toNatClampNeg)) 10 (lt (wI M20 5 ((5 : Int32) + (M.1 2 ((6 : Int32)).toNatClampNeg)).toNatClampNeg v19) (fun (M22 : Mm) => lt (wI M22 2 ((6 : Int32)).toNatClampNeg ((M22.1 2 ((6 : Int32)).toNatClampNeg) + (1 : Int32))) (fun (M24 : Mm) => some M24))))))))) else (if p1 = (109 : Int32) then (b2 (fX7_number (1 : Int32) (6 : Int32) M) (fun (v28 : Int32) (M29 : Mm) => lt (wI M29 2 ((5 : Int32)).toNatClampNeg v28) (fun (M30 : Mm) => lt (wI M30 0 9 ((M30.1 0 9) ||| (1 : Int32))) (fun (M32 : Mm) => some M32)))) else (b2 (fX7_number (10 : Int32) (99 : Int32) M) (fun (v35 : Int32) (M36 : Mm) => lt (wI M36 2 ((7 : Int32)).toNatClampNeg v35) (fun (M37 : Mm) => lt (wI M37 0 9 ((M37.1 0 9) ||| (2 : Int32))) (fun (M39 : Mm) => some M39))))))
set_option maxHeartbeats 4000000 in
set_option maxRecDepth 100000 in
theorem kX7_readsItem (l : Launch) {D : va_G} {cy : Nat → ClassId} {ad : Nat → Nat} (hJ : Inj ad 15)  (p1 : Int32) (M : Mm) (M' : Mm) (h : fX7_readsItem p1 M = some M') : Met l yX7_readsItem vX7_readsItem ({ frames := 4, cells := 0, slots := 0, locals := 87 } : Room) (PcF [.ref (ad 0), .int p1] D cy ad kdV shM rfM 15 M) (QcV D cy ad kdV shM rfM 15 M') 0 0 (AV ad 15) := by
  refine Met.ofW (cc := cX7_readsItem) (maxL := 3) (ret := none) (by decide) rfl ?_
  intro p e s m args below meth c s₁ B hml hv
  obtain ⟨rfl, hP, hK, hN⟩ := hv
  have hr := B.returns
  have hlocks := B.notSynchronized
  have S : CallFix p m c cX7_readsItem 3 s ([.ref (ad 0), .int p1] : List Value).toArray vX7_readsItem RX7 := ⟨B.exec, B.bytes, hml, findClass_of_methodNamed B.named, atoms_spec (ws := vX7_readsItem) B.pre⟩
  have hq : ∀ w ∈ GW, w.before ([.ref (ad 0), .int p1] : List Value).toArray s = true := fun w h => S.2.2.2.2 w (List.mem_cons_of_mem _ h)
  have hA : ∀ k, k < 15 → AV ad 15 (ad k) := fun k hk => ⟨k, hk, rfl⟩
  have hW : WSt D cy ad kdV shM rfM 15 (AV ad 15) M s.heap s.heap [] := ⟨hP, va_S.rf⟩
  clear hP
  have iX7 : ∀ w ∈ wsX70, w ∈ vX7_readsItem := fun w h => List.mem_cons_of_mem _ (inX7 w h)
  have hl := lv_entry ([.ref (ad 0), .int p1]) (n := 3) (Nat.le_of_ble_eq_true rfl)
  rw [lg_entry_eq]
  generalize (lg_sl ([.ref (ad 0), .int p1]) ++ List.replicate (3 - (lg_sl ([.ref (ad 0), .int p1])).length) Slot.unset).toArray = ls at hl ⊢
  have hl : lv_has ls 3 [(0, .ref (ad 0)), (1, .int p1)] := hl
  rw [fX7_readsItem] at h
  refine lv_iload_n S.1 S.2.1 dX7_readsItem_0 rfl (lv_at hl 1 rfl) ?_
  refine lv_bipush (v := (97 : Int32)) S.1 S.2.1 dX7_readsItem_1 (by decide) ?_
  refine lv_icmp_ne (tgt := 37) S.1 S.2.1 dX7_readsItem_3 (by decide) (fun c1 => ?_) (fun c1 => ?_)
  · replace h := (if_neg c1).symm.trans h
    refine lv_iload_n S.1 S.2.1 dX7_readsItem_37 rfl (lv_at hl 1 rfl) ?_
    refine lv_bipush (v := (119 : Int32)) S.1 S.2.1 dX7_readsItem_38 (by decide) ?_
    refine lv_icmp_ne (tgt := 98) S.1 S.2.1 dX7_readsItem_40 (by decide) (fun c10 => ?_) (fun c10 => ?_)
    · replace h := (if_neg c10).symm.trans h
      refine lv_iload_n S.1 S.2.1 dX7_readsItem_98 rfl (lv_at hl 1 rfl) ?_
      refine lv_bipush (v := (109 : Int32)) S.1 S.2.1 dX7_readsItem_99 (by decide) ?_
      refine lv_icmp_ne (tgt := 130) S.1 S.2.1 dX7_readsItem_101 (by decide) (fun c26 => ?_) (fun c26 => ?_)
      · replace h := (if_neg c26).symm.trans h
        refine lv_aload_n S.1 S.2.1 dX7_readsItem_130 rfl (lv_at hl 0 rfl) ?_
        refine fl_get S hK iX7 rfl lM_0 sM_0 10 (by decide) (hq _ q_319) (fun _ h9 => h9) (fvs_R rfl rfl) hW dX7_readsItem_131 ?_
        refine lv_bipush (v := (7 : Int32)) S.1 S.2.1 dX7_readsItem_134 (by decide) ?_
        refine lv_aload_n S.1 S.2.1 dX7_readsItem_136 rfl (lv_at hl 0 rfl) ?_
        refine lv_bipush (v := (10 : Int32)) S.1 S.2.1 dX7_readsItem_137 (by decide) ?_
        refine lv_bipush (v := (99 : Int32)) S.1 S.2.1 dX7_readsItem_139 (by decide) ?_
        obtain ⟨v35, M36, u34, h⟩ := b2_some h
        refine fl_doneI (fl_runV S hK hN (kX7_number l hJ (10 : Int32) (99 : Int32) M v35 M36 u34) (cwV 2 S.2.2.2.2 (gV q_322 q_323 q_324 q_291 q_321) rfl rfl rfl (by decide +kernel) ⟨Nat.le_of_ble_eq_true rfl, Nat.le_of_ble_eq_true rfl⟩) (ci := 7) rfl lM_0 sM_0 rfl hl.1 rfl (Nat.le_of_ble_eq_true rfl) dX7_readsItem_141 ⟨Nat.zero_le _, Nat.zero_le _⟩ hW) hA hW.2 (fun H locs hW => ?_)
        refine fl_iast S hK hJ hA lM_2 sM_2 (vp_dec (i := (7 : Int32)) (n := 8) (by decide)) hW dX7_readsItem_144 (fun H locs hW => ?_)
        obtain ⟨M37, e38, h⟩ := lt_some h
        rw [e38] at hW
        clear e38
        refine lv_aload_n S.1 S.2.1 dX7_readsItem_145 rfl (lv_at hl 0 rfl) ?_
        refine lv_dup S.1 S.2.1 dX7_readsItem_146 rfl ?_
        refine fl_get S hK iX7 rfl lM_0 sM_0 9 (by decide) (hq _ q_318) (fun _ h9 => h9) (fvs_I rfl) hW dX7_readsItem_147 ?_
        refine lv_iconst (v := (2 : Int32)) S.1 S.2.1 dX7_readsItem_150 (by decide) ?_
        refine lv_ior S.1 S.2.1 dX7_readsItem_151 ?_
        refine fl_put S hK hJ hA tyX7 tyX7_ok nmX7 iX7 rfl lM_0 sM_0 9 (by decide) (hq _ q_318) (fun _ h9 => h9) rfl (ty := .int) rfl rfl rfl (wI M37 0 9 ((M37.1 0 9) ||| (2 : Int32))) (by decide) (fvs_setI _ _ _ _ _ _ _ rfl) (fun j _ hj => cof_wI_ne hj) hW dX7_readsItem_152 (fun H locs hW => ?_)
        obtain ⟨M39, e40, h⟩ := lt_some h
        rw [e40] at hW
        clear e40
        obtain rfl := s1 h
        exact fl_vret S.1 S.2.1 hr hlocks hW dX7_readsItem_155
      · replace h := (if_pos c26).symm.trans h
        refine lv_aload_n S.1 S.2.1 dX7_readsItem_104 rfl (lv_at hl 0 rfl) ?_
        refine fl_get S hK iX7 rfl lM_0 sM_0 10 (by decide) (hq _ q_319) (fun _ h9 => h9) (fvs_R rfl rfl) hW dX7_readsItem_105 ?_
        refine lv_iconst (v := (5 : Int32)) S.1 S.2.1 dX7_readsItem_108 (by decide) ?_
        refine lv_aload_n S.1 S.2.1 dX7_readsItem_109 rfl (lv_at hl 0 rfl) ?_
        refine lv_iconst (v := (1 : Int32)) S.1 S.2.1 dX7_readsItem_110 (by decide) ?_
        refine lv_bipush (v := (6 : Int32)) S.1 S.2.1 dX7_readsItem_111 (by decide) ?_
        obtain ⟨v28, M29, u27, h⟩ := b2_some h
        refine fl_doneI (fl_runV S hK hN (kX7_number l hJ (1 : Int32) (6 : Int32) M v28 M29 u27) (cwV 2 S.2.2.2.2 (gV q_322 q_323 q_324 q_291 q_321) rfl rfl rfl (by decide +kernel) ⟨Nat.le_of_ble_eq_true rfl, Nat.le_of_ble_eq_true rfl⟩) (ci := 7) rfl lM_0 sM_0 rfl hl.1 rfl (Nat.le_of_ble_eq_true rfl) dX7_readsItem_113 ⟨Nat.zero_le _, Nat.zero_le _⟩ hW) hA hW.2 (fun H locs hW => ?_)
        refine fl_iast S hK hJ hA lM_2 sM_2 (vp_dec (i := (5 : Int32)) (n := 8) (by decide)) hW dX7_readsItem_116 (fun H locs hW => ?_)
        obtain ⟨M30, e31, h⟩ := lt_some h
        rw [e31] at hW
        clear e31
        refine lv_aload_n S.1 S.2.1 dX7_readsItem_117 rfl (lv_at hl 0 rfl) ?_
        refine lv_dup S.1 S.2.1 dX7_readsItem_118 rfl ?_
        refine fl_get S hK iX7 rfl lM_0 sM_0 9 (by decide) (hq _ q_318) (fun _ h9 => h9) (fvs_I rfl) hW dX7_readsItem_119 ?_
        refine lv_iconst (v := (1 : Int32)) S.1 S.2.1 dX7_readsItem_122 (by decide) ?_
        refine lv_ior S.1 S.2.1 dX7_readsItem_123 ?_
        refine fl_put S hK hJ hA tyX7 tyX7_ok nmX7 iX7 rfl lM_0 sM_0 9 (by decide) (hq _ q_318) (fun _ h9 => h9) rfl (ty := .int) rfl rfl rfl (wI M30 0 9 ((M30.1 0 9) ||| (1 : Int32))) (by decide) (fvs_setI _ _ _ _ _ _ _ rfl) (fun j _ hj => cof_wI_ne hj) hW dX7_readsItem_124 (fun H locs hW => ?_)
        obtain ⟨M32, e33, h⟩ := lt_some h
        rw [e33] at hW
        clear e33
        refine lv_goto (tgt := 155) S.1 S.2.1 dX7_readsItem_127 (by decide) ?_
        obtain rfl := s1 h
        exact fl_vret S.1 S.2.1 hr hlocks hW dX7_readsItem_155
    · replace h := (if_pos c10).symm.trans h
      refine lv_iconst (v := (5 : Int32)) S.1 S.2.1 dX7_readsItem_43 (by decide) ?_
      refine lv_aload_n S.1 S.2.1 dX7_readsItem_44 rfl (lv_at hl 0 rfl) ?_
      refine fl_get S hK iX7 rfl lM_0 sM_0 10 (by decide) (hq _ q_319) (fun _ h9 => h9) (fvs_R rfl rfl) hW dX7_readsItem_45 ?_
      refine lv_bipush (v := (6 : Int32)) S.1 S.2.1 dX7_readsItem_48 (by decide) ?_
      refine fl_iald S hK lM_2 sM_2 (vp_dec (i := (6 : Int32)) (n := 8) (by decide)) hW dX7_readsItem_50 ?_
      refine lv_iadd S.1 S.2.1 dX7_readsItem_51 ?_
      refine lv_istore_n (lv' := [(2, .int ((5 : Int32) + (M.1 2 ((6 : Int32)).toNatClampNeg))), (0, .ref (ad 0)), (1, .int p1)]) S.1 S.2.1 dX7_readsItem_52 rfl hl (by decide) rfl (fun ls hl => ?_)
      refine lv_aload_n S.1 S.2.1 dX7_readsItem_53 rfl (lv_at hl 1 rfl) ?_
      refine fl_get S hK iX7 rfl lM_0 sM_0 12 (by decide) (hq _ q_325) (fun _ h9 => h9) (fvs_R rfl rfl) hW dX7_readsItem_54 ?_
      refine lv_iload_n S.1 S.2.1 dX7_readsItem_57 rfl (lv_at hl 0 rfl) ?_
      refine lv_aload_n S.1 S.2.1 dX7_readsItem_58 rfl (lv_at hl 1 rfl) ?_
      refine lv_iconst (v := (0 : Int32)) S.1 S.2.1 dX7_readsItem_59 (by decide) ?_
      refine lv_bipush (v := (99 : Int32)) S.1 S.2.1 dX7_readsItem_60 (by decide) ?_
      obtain ⟨v12, M13, u11, h⟩ := b2_some h
      refine fl_doneI (fl_runV S hK hN (kX7_number l hJ (0 : Int32) (99 : Int32) M v12 M13 u11) (cwV 2 S.2.2.2.2 (gV q_322 q_323 q_324 q_291 q_321) rfl rfl rfl (by decide +kernel) ⟨Nat.le_of_ble_eq_true rfl, Nat.le_of_ble_eq_true rfl⟩) (ci := 7) rfl lM_0 sM_0 rfl hl.1 rfl (Nat.le_of_ble_eq_true rfl) dX7_readsItem_62 ⟨Nat.zero_le _, Nat.zero_le _⟩ hW) hA hW.2 (fun H locs hW => ?_)
      obtain ⟨g14, h⟩ := ix_some h
      refine fl_iast S hK hJ hA lM_4 sM_4 g14 hW dX7_readsItem_65 (fun H locs hW => ?_)
      obtain ⟨M15, e16, h⟩ := lt_some h
      rw [e16] at hW
      clear e16
      refine lv_aload_n S.1 S.2.1 dX7_readsItem_66 rfl (lv_at hl 1 rfl) ?_
      refine fl_get S hK iX7 rfl lM_0 sM_0 13 (by decide) (hq _ q_326) (fun _ h9 => h9) (fvs_R rfl rfl) hW dX7_readsItem_67 ?_
      refine lv_iload_n S.1 S.2.1 dX7_readsItem_70 rfl (lv_at hl 0 rfl) ?_
      refine lv_aload_n S.1 S.2.1 dX7_readsItem_71 rfl (lv_at hl 1 rfl) ?_
      refine lv_aload_n S.1 S.2.1 dX7_readsItem_72 rfl (lv_at hl 1 rfl) ?_
      refine fl_get S hK iX7 rfl lM_0 sM_0 12 (by decide) (hq _ q_325) (fun _ h9 => h9) (fvs_R rfl rfl) hW dX7_readsItem_73 ?_
      refine lv_iload_n S.1 S.2.1 dX7_readsItem_76 rfl (lv_at hl 0 rfl) ?_
      obtain ⟨g17, h⟩ := ix_some h
      refine fl_iald S hK lM_4 sM_4 g17 hW dX7_readsItem_77 ?_
      refine lv_bipush (v := (99 : Int32)) S.1 S.2.1 dX7_readsItem_78 (by decide) ?_
      obtain ⟨v19, M20, u18, h⟩ := b2_some h
      refine fl_doneI (fl_runV S hK hN (kX7_number l hJ (M15.1 4 ((5 : Int32) + (M.1 2 ((6 : Int32)).toNatClampNeg)).toNatClampNeg) (99 : Int32) M15 v19 M20 u18) (cwV 2 S.2.2.2.2 (gV q_322 q_323 q_324 q_291 q_321) rfl rfl rfl (by decide +kernel) ⟨Nat.le_of_ble_eq_true rfl, Nat.le_of_ble_eq_true rfl⟩) (ci := 7) rfl lM_0 sM_0 rfl hl.1 rfl (Nat.le_of_ble_eq_true rfl) dX7_readsItem_80 ⟨Nat.zero_le _, Nat.zero_le _⟩ hW) hA hW.2 (fun H locs hW => ?_)
      obtain ⟨g21, h⟩ := ix_some h
      refine fl_iast S hK hJ hA lM_5 sM_5 g21 hW dX7_readsItem_83 (fun H locs hW => ?_)
      obtain ⟨M22, e23, h⟩ := lt_some h
      rw [e23] at hW
      clear e23
      refine lv_aload_n S.1 S.2.1 dX7_readsItem_84 rfl (lv_at hl 1 rfl) ?_
      refine fl_get S hK iX7 rfl lM_0 sM_0 10 (by decide) (hq _ q_319) (fun _ h9 => h9) (fvs_R rfl rfl) hW dX7_readsItem_85 ?_
      refine lv_bipush (v := (6 : Int32)) S.1 S.2.1 dX7_readsItem_88 (by decide) ?_
      refine lv_dup2_11 S.1 S.2.1 dX7_readsItem_90 rfl rfl ?_
      refine fl_iald S hK lM_2 sM_2 (vp_dec (i := (6 : Int32)) (n := 8) (by decide)) hW dX7_readsItem_91 ?_
      refine lv_iconst (v := (1 : Int32)) S.1 S.2.1 dX7_readsItem_92 (by decide) ?_
      refine lv_iadd S.1 S.2.1 dX7_readsItem_93 ?_
      refine fl_iast S hK hJ hA lM_2 sM_2 (vp_dec (i := (6 : Int32)) (n := 8) (by decide)) hW dX7_readsItem_94 (fun H locs hW => ?_)
      obtain ⟨M24, e25, h⟩ := lt_some h
      rw [e25] at hW
      clear e25
      refine lv_goto (tgt := 155) S.1 S.2.1 dX7_readsItem_95 (by decide) ?_
      obtain rfl := s1 h
      exact fl_vret S.1 S.2.1 hr hlocks hW dX7_readsItem_155
  · replace h := (if_pos c1).symm.trans h
    refine lv_aload_n S.1 S.2.1 dX7_readsItem_6 rfl (lv_at hl 0 rfl) ?_
    refine fl_get S hK iX7 rfl lM_0 sM_0 11 (by decide) (hq _ q_320) (fun _ h9 => h9) (fvs_R rfl rfl) hW dX7_readsItem_7 ?_
    refine lv_aload_n S.1 S.2.1 dX7_readsItem_10 rfl (lv_at hl 0 rfl) ?_
    refine fl_get S hK iX7 rfl lM_0 sM_0 10 (by decide) (hq _ q_319) (fun _ h9 => h9) (fvs_R rfl rfl) hW dX7_readsItem_11 ?_
    refine lv_iconst (v := (4 : Int32)) S.1 S.2.1 dX7_readsItem_14 (by decide) ?_
    refine fl_iald S hK lM_2 sM_2 (vp_dec (i := (4 : Int32)) (n := 8) (by decide)) hW dX7_readsItem_15 ?_
    refine lv_aload_n S.1 S.2.1 dX7_readsItem_16 rfl (lv_at hl 0 rfl) ?_
    refine lv_iconst (v := (0 : Int32)) S.1 S.2.1 dX7_readsItem_17 (by decide) ?_
    refine lv_bipush (v := (99 : Int32)) S.1 S.2.1 dX7_readsItem_18 (by decide) ?_
    obtain ⟨v3, M4, u2, h⟩ := b2_some h
    refine fl_doneI (fl_runV S hK hN (kX7_number l hJ (0 : Int32) (99 : Int32) M v3 M4 u2) (cwV 2 S.2.2.2.2 (gV q_322 q_323 q_324 q_291 q_321) rfl rfl rfl (by decide +kernel) ⟨Nat.le_of_ble_eq_true rfl, Nat.le_of_ble_eq_true rfl⟩) (ci := 7) rfl lM_0 sM_0 rfl hl.1 rfl (Nat.le_of_ble_eq_true rfl) dX7_readsItem_20 ⟨Nat.zero_le _, Nat.zero_le _⟩ hW) hA hW.2 (fun H locs hW => ?_)
    obtain ⟨g5, h⟩ := ix_some h
    refine fl_iast S hK hJ hA lM_3 sM_3 g5 hW dX7_readsItem_23 (fun H locs hW => ?_)
    obtain ⟨M6, e7, h⟩ := lt_some h
    rw [e7] at hW
    clear e7
    refine lv_aload_n S.1 S.2.1 dX7_readsItem_24 rfl (lv_at hl 0 rfl) ?_
    refine fl_get S hK iX7 rfl lM_0 sM_0 10 (by decide) (hq _ q_319) (fun _ h9 => h9) (fvs_R rfl rfl) hW dX7_readsItem_25 ?_
    refine lv_iconst (v := (4 : Int32)) S.1 S.2.1 dX7_readsItem_28 (by decide) ?_
    refine lv_dup2_11 S.1 S.2.1 dX7_readsItem_29 rfl rfl ?_
    refine fl_iald S hK lM_2 sM_2 (vp_dec (i := (4 : Int32)) (n := 8) (by decide)) hW dX7_readsItem_30 ?_
    refine lv_iconst (v := (1 : Int32)) S.1 S.2.1 dX7_readsItem_31 (by decide) ?_
    refine lv_iadd S.1 S.2.1 dX7_readsItem_32 ?_
    refine fl_iast S hK hJ hA lM_2 sM_2 (vp_dec (i := (4 : Int32)) (n := 8) (by decide)) hW dX7_readsItem_33 (fun H locs hW => ?_)
    obtain ⟨M8, e9, h⟩ := lt_some h
    rw [e9] at hW
    clear e9
    refine lv_goto (tgt := 155) S.1 S.2.1 dX7_readsItem_34 (by decide) ?_
    obtain rfl := s1 h
    exact fl_vret S.1 S.2.1 hr hlocks hW dX7_readsItem_155
def fX7_settles_L2  : Nat → Int32 → Mm → Option (Int32 × Mm)
  | 0, _, _ => none
  | n + 1, x1, Ml => if (4 : Int32) ≤ x1 then (some (x1, Ml)) else (ix ((4 : Int32) + x1) 8 (ix x1 8 (lt (wI Ml 2 (x1).toNatClampNeg (Ml.1 2 ((4 : Int32) + x1).toNatClampNeg)) (fun (M6 : Mm) => fX7_settles_L2 n (x1 + (1 : Int32)) M6))))
def fX7_settles_L29  : Nat → Int32 → Mm → Option (Int32 × Mm)
  | 0, _, _ => none
  | n + 1, x1, Ml => if (5 : Int32) ≤ x1 then (some (x1, Ml)) else (ix ((5 : Int32) + x1) 10 (ix x1 10 (lt (wI Ml 4 (x1).toNatClampNeg (Ml.1 4 ((5 : Int32) + x1).toNatClampNeg)) (fun (M13 : Mm) => ix ((5 : Int32) + x1) 10 (ix x1 10 (lt (wI M13 5 (x1).toNatClampNeg (M13.1 5 ((5 : Int32) + x1).toNatClampNeg)) (fun (M17 : Mm) => fX7_settles_L29 n (x1 + (1 : Int32)) M17)))))))
def fX7_settles_L70  : Nat → Int32 → Mm → Option (Int32 × Mm)
  | 0, _, _ => none
  | n + 1, x1, Ml => if (21 : Int32) ≤ x1 then (some (x1, Ml)) else (ix x1 21 (lt (wI Ml 6 (x1).toNatClampNeg (0 : Int32)) (fun (M23 : Mm) => fX7_settles_L70 n (x1 + (1 : Int32)) M23)))
def fX7_settles_L91  : Nat → Int32 → Mm → Option (Int32 × Mm)
  | 0, _, _ => none
  | n + 1, x1, Ml => if (6 : Int32) ≤ x1 then (some (x1, Ml)) else (if (Ml.1 2 ((0 : Int32)).toNatClampNeg) ≤ x1 then (ix ((1 : Int32) + x1) 21 (lt (wI Ml 6 ((1 : Int32) + x1).toNatClampNeg (0 : Int32)) (fun (M30 : Mm) => ix ((7 : Int32) + x1) 21 (lt (wI M30 6 ((7 : Int32) + x1).toNatClampNeg x1) (fun (M33 : Mm) => fX7_settles_L91 n (x1 + (1 : Int32)) M33))))) else (ix x1 6 (ix ((1 : Int32) + x1) 21 (lt (wI Ml 6 ((1 : Int32) + x1).toNatClampNeg (Ml.1 3 (x1).toNatClampNeg)) (fun (M37 : Mm) => ix ((7 : Int32) + x1) 21 (lt (wI M37 6 ((7 : Int32) + x1).toNatClampNeg x1) (fun (M40 : Mm) => fX7_settles_L91 n (x1 + (1 : Int32)) M40)))))))
def fX7_settles (M : Mm) : Option (Mm) :=
  b2 (fX7_settles_L2 50000 (0 : Int32) M) (fun (w1 : Int32) (M2 : Mm) => b2 (fX7_settles_L29 50000 (0 : Int32) M2) (fun (w8 : Int32) (M9 : Mm) => b2 (fX7_settles_L70 50000 (0 : Int32) M9) (fun (w19 : Int32) (M20 : Mm) => b2 (fX7_settles_L91 50000 (0 : Int32) M20) (fun (w25 : Int32) (M26 : Mm) => lt (wI M26 0 3 (0 : Int32)) (fun (M42 : Mm) => lt (wI M42 0 21 (0 : Int32)) (fun (M44 : Mm) => lt (wI M44 0 18 (0 : Int32)) (fun (M46 : Mm) => lt (wI M46 8 ((0 : Int32)).toNatClampNeg (0 : Int32)) (fun (M48 : Mm) => lt (wI M48 8 ((1 : Int32)).toNatClampNeg (0 : Int32)) (fun (M50 : Mm) => some M50)))))))))
set_option maxHeartbeats 4000000 in
set_option maxRecDepth 100000 in
theorem kX7_settles (l : Launch) {D : va_G} {cy : Nat → ClassId} {ad : Nat → Nat} (hJ : Inj ad 15)   (M : Mm) (M' : Mm) (h : fX7_settles M = some M') : Met l yX7_settles vX7_settles ({ frames := 0, cells := 0, slots := 0, locals := 0 } : Room) (PcF [.ref (ad 0)] D cy ad kdV shM rfM 15 M) (QcV D cy ad kdV shM rfM 15 M') 0 0 (AV ad 15) := by
  refine Met.ofW (cc := cX7_settles) (maxL := 2) (ret := none) (by decide) rfl ?_
  intro p e s m args below meth c s₁ B hml hv
  obtain ⟨rfl, hP, hK, hN⟩ := hv
  have hr := B.returns
  have hlocks := B.notSynchronized
  have S : CallFix p m c cX7_settles 2 s ([.ref (ad 0)] : List Value).toArray vX7_settles RX7 := ⟨B.exec, B.bytes, hml, findClass_of_methodNamed B.named, atoms_spec (ws := vX7_settles) B.pre⟩
  have hq : ∀ w ∈ GW, w.before ([.ref (ad 0)] : List Value).toArray s = true := fun w h => S.2.2.2.2 w (List.mem_cons_of_mem _ h)
  have hA : ∀ k, k < 15 → AV ad 15 (ad k) := fun k hk => ⟨k, hk, rfl⟩
  have hW : WSt D cy ad kdV shM rfM 15 (AV ad 15) M s.heap s.heap [] := ⟨hP, va_S.rf⟩
  clear hP
  have iX7 : ∀ w ∈ wsX70, w ∈ vX7_settles := fun w h => List.mem_cons_of_mem _ (inX7 w h)
  have hl := lv_entry ([.ref (ad 0)]) (n := 2) (Nat.le_of_ble_eq_true rfl)
  rw [lg_entry_eq]
  generalize (lg_sl ([.ref (ad 0)]) ++ List.replicate (2 - (lg_sl ([.ref (ad 0)])).length) Slot.unset).toArray = ls at hl ⊢
  have hl : lv_has ls 2 [(0, .ref (ad 0))] := hl
  rw [fX7_settles] at h
  refine lv_iconst (v := (0 : Int32)) S.1 S.2.1 dX7_settles_0 (by decide) ?_
  refine lv_istore_n (lv' := [(1, .int (0 : Int32)), (0, .ref (ad 0))]) S.1 S.2.1 dX7_settles_1 rfl hl (by decide) rfl (fun ls hl => ?_)
  have L2 : ∀ (n : Nat) (x1 : Int32) (Ml : Mm) (w1 : Int32) (M2 : Mm), fX7_settles_L2 n x1 Ml = some (w1, M2) → ∀ (H : Heap) (locs : List Loc) (ls : Array Slot), lv_has ls 2 [(0, .ref (ad 0)), (1, .int x1)] → WSt D cy ad kdV shM rfM 15 (AV ad 15) Ml s.heap H locs → (∀ (H : Heap) (locs : List Loc) (ls : Array Slot), lv_has ls 2 [(0, .ref (ad 0)), (1, .int w1)] → WSt D cy ad kdV shM rfM 15 (AV ad 15) M2 s.heap H locs → W p l e (headSpec vX7_settles ({ frames := 0, cells := 0, slots := 0, locals := 0 } : Room)).room s m ([.ref (ad 0)] : List Value).toArray below meth c H locs 0 0 (MQ below (QcV D cy ad kdV shM rfM 15 M') ([.ref (ad 0)] : List Value).toArray s 0 0 (AV ad 15)) (F0 m 27 ls [])) → W p l e (headSpec vX7_settles ({ frames := 0, cells := 0, slots := 0, locals := 0 } : Room)).room s m ([.ref (ad 0)] : List Value).toArray below meth c H locs 0 0 (MQ below (QcV D cy ad kdV shM rfM 15 M') ([.ref (ad 0)] : List Value).toArray s 0 0 (AV ad 15)) (F0 m 2 ls []) := by
    intro n
    induction n with
    | zero => intro x1 Ml w1 M2 h; cases h
    | succ n ih =>
      intro x1 Ml w1 M2 h H locs ls hl hW K
      rw [fX7_settles_L2] at h
      refine lv_iload_n S.1 S.2.1 dX7_settles_2 rfl (lv_at hl 1 rfl) ?_
      refine lv_iconst (v := (4 : Int32)) S.1 S.2.1 dX7_settles_3 (by decide) ?_
      refine lv_icmp_ge (tgt := 27) S.1 S.2.1 dX7_settles_4 (by decide) (fun c3 => ?_) (fun c3 => ?_)
      · replace h := (if_pos c3).symm.trans h
        obtain ⟨rfl, rfl⟩ := s2 h
        exact K _ _ _ hl hW
      · replace h := (if_neg c3).symm.trans h
        refine lv_aload_n S.1 S.2.1 dX7_settles_7 rfl (lv_at hl 0 rfl) ?_
        refine fl_get S hK iX7 rfl lM_0 sM_0 10 (by decide) (hq _ q_319) (fun _ h9 => h9) (fvs_R rfl rfl) hW dX7_settles_8 ?_
        refine lv_iload_n S.1 S.2.1 dX7_settles_11 rfl (lv_at hl 1 rfl) ?_
        refine lv_aload_n S.1 S.2.1 dX7_settles_12 rfl (lv_at hl 0 rfl) ?_
        refine fl_get S hK iX7 rfl lM_0 sM_0 10 (by decide) (hq _ q_319) (fun _ h9 => h9) (fvs_R rfl rfl) hW dX7_settles_13 ?_
        refine lv_iconst (v := (4 : Int32)) S.1 S.2.1 dX7_settles_16 (by decide) ?_
        refine lv_iload_n S.1 S.2.1 dX7_settles_17 rfl (lv_at hl 1 rfl) ?_
        refine lv_iadd S.1 S.2.1 dX7_settles_18 ?_
        obtain ⟨g4, h⟩ := ix_some h
        refine fl_iald S hK lM_2 sM_2 g4 hW dX7_settles_19 ?_
        obtain ⟨g5, h⟩ := ix_some h
        refine fl_iast S hK hJ hA lM_2 sM_2 g5 hW dX7_settles_20 (fun H locs hW => ?_)
        obtain ⟨M6, e7, h⟩ := lt_some h
        rw [e7] at hW
        clear e7
        refine lv_iinc (v := x1 + (1 : Int32)) (lv' := [(1, .int (x1 + (1 : Int32))), (0, .ref (ad 0))]) S.1 S.2.1 dX7_settles_21 hl (k := 1) rfl rfl (by decide) rfl (fun ls hl => ?_)
        refine lv_goto (tgt := 2) S.1 S.2.1 dX7_settles_24 (by decide) ?_
        exact ih _ _ _ _ h _ _ _ (lv_sub hl [1, 0] rfl) hW K
  obtain ⟨w1, M2, u55, h⟩ := b2_some h
  refine L2 50000 _ _ _ _ u55 _ _ _ (lv_sub hl [1, 0] rfl) hW (fun H locs ls hl hW => ?_)
  clear L2
  refine lv_iconst (v := (0 : Int32)) S.1 S.2.1 dX7_settles_27 (by decide) ?_
  refine lv_istore_n (lv' := [(1, .int (0 : Int32)), (0, .ref (ad 0))]) S.1 S.2.1 dX7_settles_28 rfl hl (by decide) rfl (fun ls hl => ?_)
  have L29 : ∀ (n : Nat) (x1 : Int32) (Ml : Mm) (w8 : Int32) (M9 : Mm), fX7_settles_L29 n x1 Ml = some (w8, M9) → ∀ (H : Heap) (locs : List Loc) (ls : Array Slot), lv_has ls 2 [(0, .ref (ad 0)), (1, .int x1)] → WSt D cy ad kdV shM rfM 15 (AV ad 15) Ml s.heap H locs → (∀ (H : Heap) (locs : List Loc) (ls : Array Slot), lv_has ls 2 [(0, .ref (ad 0)), (1, .int w8)] → WSt D cy ad kdV shM rfM 15 (AV ad 15) M9 s.heap H locs → W p l e (headSpec vX7_settles ({ frames := 0, cells := 0, slots := 0, locals := 0 } : Room)).room s m ([.ref (ad 0)] : List Value).toArray below meth c H locs 0 0 (MQ below (QcV D cy ad kdV shM rfM 15 M') ([.ref (ad 0)] : List Value).toArray s 0 0 (AV ad 15)) (F0 m 68 ls [])) → W p l e (headSpec vX7_settles ({ frames := 0, cells := 0, slots := 0, locals := 0 } : Room)).room s m ([.ref (ad 0)] : List Value).toArray below meth c H locs 0 0 (MQ below (QcV D cy ad kdV shM rfM 15 M') ([.ref (ad 0)] : List Value).toArray s 0 0 (AV ad 15)) (F0 m 29 ls []) := by
    intro n
    induction n with
    | zero => intro x1 Ml w8 M9 h; cases h
    | succ n ih =>
      intro x1 Ml w8 M9 h H locs ls hl hW K
      rw [fX7_settles_L29] at h
      refine lv_iload_n S.1 S.2.1 dX7_settles_29 rfl (lv_at hl 1 rfl) ?_
      refine lv_iconst (v := (5 : Int32)) S.1 S.2.1 dX7_settles_30 (by decide) ?_
      refine lv_icmp_ge (tgt := 68) S.1 S.2.1 dX7_settles_31 (by decide) (fun c10 => ?_) (fun c10 => ?_)
      · replace h := (if_pos c10).symm.trans h
        obtain ⟨rfl, rfl⟩ := s2 h
        exact K _ _ _ hl hW
      · replace h := (if_neg c10).symm.trans h
        refine lv_aload_n S.1 S.2.1 dX7_settles_34 rfl (lv_at hl 0 rfl) ?_
        refine fl_get S hK iX7 rfl lM_0 sM_0 12 (by decide) (hq _ q_325) (fun _ h9 => h9) (fvs_R rfl rfl) hW dX7_settles_35 ?_
        refine lv_iload_n S.1 S.2.1 dX7_settles_38 rfl (lv_at hl 1 rfl) ?_
        refine lv_aload_n S.1 S.2.1 dX7_settles_39 rfl (lv_at hl 0 rfl) ?_
        refine fl_get S hK iX7 rfl lM_0 sM_0 12 (by decide) (hq _ q_325) (fun _ h9 => h9) (fvs_R rfl rfl) hW dX7_settles_40 ?_
        refine lv_iconst (v := (5 : Int32)) S.1 S.2.1 dX7_settles_43 (by decide) ?_
        refine lv_iload_n S.1 S.2.1 dX7_settles_44 rfl (lv_at hl 1 rfl) ?_
        refine lv_iadd S.1 S.2.1 dX7_settles_45 ?_
        obtain ⟨g11, h⟩ := ix_some h
        refine fl_iald S hK lM_4 sM_4 g11 hW dX7_settles_46 ?_
        obtain ⟨g12, h⟩ := ix_some h
        refine fl_iast S hK hJ hA lM_4 sM_4 g12 hW dX7_settles_47 (fun H locs hW => ?_)
        obtain ⟨M13, e14, h⟩ := lt_some h
        rw [e14] at hW
        clear e14
        refine lv_aload_n S.1 S.2.1 dX7_settles_48 rfl (lv_at hl 0 rfl) ?_
        refine fl_get S hK iX7 rfl lM_0 sM_0 13 (by decide) (hq _ q_326) (fun _ h9 => h9) (fvs_R rfl rfl) hW dX7_settles_49 ?_
        refine lv_iload_n S.1 S.2.1 dX7_settles_52 rfl (lv_at hl 1 rfl) ?_
        refine lv_aload_n S.1 S.2.1 dX7_settles_53 rfl (lv_at hl 0 rfl) ?_
        refine fl_get S hK iX7 rfl lM_0 sM_0 13 (by decide) (hq _ q_326) (fun _ h9 => h9) (fvs_R rfl rfl) hW dX7_settles_54 ?_
        refine lv_iconst (v := (5 : Int32)) S.1 S.2.1 dX7_settles_57 (by decide) ?_
        refine lv_iload_n S.1 S.2.1 dX7_settles_58 rfl (lv_at hl 1 rfl) ?_
        refine lv_iadd S.1 S.2.1 dX7_settles_59 ?_
        obtain ⟨g15, h⟩ := ix_some h
        refine fl_iald S hK lM_5 sM_5 g15 hW dX7_settles_60 ?_
        obtain ⟨g16, h⟩ := ix_some h
        refine fl_iast S hK hJ hA lM_5 sM_5 g16 hW dX7_settles_61 (fun H locs hW => ?_)
        obtain ⟨M17, e18, h⟩ := lt_some h
        rw [e18] at hW
        clear e18
        refine lv_iinc (v := x1 + (1 : Int32)) (lv' := [(1, .int (x1 + (1 : Int32))), (0, .ref (ad 0))]) S.1 S.2.1 dX7_settles_62 hl (k := 1) rfl rfl (by decide) rfl (fun ls hl => ?_)
        refine lv_goto (tgt := 29) S.1 S.2.1 dX7_settles_65 (by decide) ?_
        exact ih _ _ _ _ h _ _ _ (lv_sub hl [1, 0] rfl) hW K
  obtain ⟨w8, M9, u54, h⟩ := b2_some h
  refine L29 50000 _ _ _ _ u54 _ _ _ (lv_sub hl [1, 0] rfl) hW (fun H locs ls hl hW => ?_)
  clear L29
  refine lv_iconst (v := (0 : Int32)) S.1 S.2.1 dX7_settles_68 (by decide) ?_
  refine lv_istore_n (lv' := [(1, .int (0 : Int32)), (0, .ref (ad 0))]) S.1 S.2.1 dX7_settles_69 rfl hl (by decide) rfl (fun ls hl => ?_)
  have L70 : ∀ (n : Nat) (x1 : Int32) (Ml : Mm) (w19 : Int32) (M20 : Mm), fX7_settles_L70 n x1 Ml = some (w19, M20) → ∀ (H : Heap) (locs : List Loc) (ls : Array Slot), lv_has ls 2 [(0, .ref (ad 0)), (1, .int x1)] → WSt D cy ad kdV shM rfM 15 (AV ad 15) Ml s.heap H locs → (∀ (H : Heap) (locs : List Loc) (ls : Array Slot), lv_has ls 2 [(0, .ref (ad 0)), (1, .int w19)] → WSt D cy ad kdV shM rfM 15 (AV ad 15) M20 s.heap H locs → W p l e (headSpec vX7_settles ({ frames := 0, cells := 0, slots := 0, locals := 0 } : Room)).room s m ([.ref (ad 0)] : List Value).toArray below meth c H locs 0 0 (MQ below (QcV D cy ad kdV shM rfM 15 M') ([.ref (ad 0)] : List Value).toArray s 0 0 (AV ad 15)) (F0 m 89 ls [])) → W p l e (headSpec vX7_settles ({ frames := 0, cells := 0, slots := 0, locals := 0 } : Room)).room s m ([.ref (ad 0)] : List Value).toArray below meth c H locs 0 0 (MQ below (QcV D cy ad kdV shM rfM 15 M') ([.ref (ad 0)] : List Value).toArray s 0 0 (AV ad 15)) (F0 m 70 ls []) := by
    intro n
    induction n with
    | zero => intro x1 Ml w19 M20 h; cases h
    | succ n ih =>
      intro x1 Ml w19 M20 h H locs ls hl hW K
      rw [fX7_settles_L70] at h
      refine lv_iload_n S.1 S.2.1 dX7_settles_70 rfl (lv_at hl 1 rfl) ?_
      refine lv_bipush (v := (21 : Int32)) S.1 S.2.1 dX7_settles_71 (by decide) ?_
      refine lv_icmp_ge (tgt := 89) S.1 S.2.1 dX7_settles_73 (by decide) (fun c21 => ?_) (fun c21 => ?_)
      · replace h := (if_pos c21).symm.trans h
        obtain ⟨rfl, rfl⟩ := s2 h
        exact K _ _ _ hl hW
      · replace h := (if_neg c21).symm.trans h
        refine lv_aload_n S.1 S.2.1 dX7_settles_76 rfl (lv_at hl 0 rfl) ?_
        refine fl_get S hK iX7 rfl lM_0 sM_0 14 (by decide) (hq _ q_327) (fun _ h9 => h9) (fvs_R rfl rfl) hW dX7_settles_77 ?_
        refine lv_iload_n S.1 S.2.1 dX7_settles_80 rfl (lv_at hl 1 rfl) ?_
        refine lv_iconst (v := (0 : Int32)) S.1 S.2.1 dX7_settles_81 (by decide) ?_
        obtain ⟨g22, h⟩ := ix_some h
        refine fl_iast S hK hJ hA lM_6 sM_6 g22 hW dX7_settles_82 (fun H locs hW => ?_)
        obtain ⟨M23, e24, h⟩ := lt_some h
        rw [e24] at hW
        clear e24
        refine lv_iinc (v := x1 + (1 : Int32)) (lv' := [(1, .int (x1 + (1 : Int32))), (0, .ref (ad 0))]) S.1 S.2.1 dX7_settles_83 hl (k := 1) rfl rfl (by decide) rfl (fun ls hl => ?_)
        refine lv_goto (tgt := 70) S.1 S.2.1 dX7_settles_86 (by decide) ?_
        exact ih _ _ _ _ h _ _ _ (lv_sub hl [1, 0] rfl) hW K
  obtain ⟨w19, M20, u53, h⟩ := b2_some h
  refine L70 50000 _ _ _ _ u53 _ _ _ (lv_sub hl [1, 0] rfl) hW (fun H locs ls hl hW => ?_)
  clear L70
  refine lv_iconst (v := (0 : Int32)) S.1 S.2.1 dX7_settles_89 (by decide) ?_
  refine lv_istore_n (lv' := [(1, .int (0 : Int32)), (0, .ref (ad 0))]) S.1 S.2.1 dX7_settles_90 rfl hl (by decide) rfl (fun ls hl => ?_)
  have L91 : ∀ (n : Nat) (x1 : Int32) (Ml : Mm) (w25 : Int32) (M26 : Mm), fX7_settles_L91 n x1 Ml = some (w25, M26) → ∀ (H : Heap) (locs : List Loc) (ls : Array Slot), lv_has ls 2 [(0, .ref (ad 0)), (1, .int x1)] → WSt D cy ad kdV shM rfM 15 (AV ad 15) Ml s.heap H locs → (∀ (H : Heap) (locs : List Loc) (ls : Array Slot), lv_has ls 2 [(0, .ref (ad 0)), (1, .int w25)] → WSt D cy ad kdV shM rfM 15 (AV ad 15) M26 s.heap H locs → W p l e (headSpec vX7_settles ({ frames := 0, cells := 0, slots := 0, locals := 0 } : Room)).room s m ([.ref (ad 0)] : List Value).toArray below meth c H locs 0 0 (MQ below (QcV D cy ad kdV shM rfM 15 M') ([.ref (ad 0)] : List Value).toArray s 0 0 (AV ad 15)) (F0 m 141 ls [])) → W p l e (headSpec vX7_settles ({ frames := 0, cells := 0, slots := 0, locals := 0 } : Room)).room s m ([.ref (ad 0)] : List Value).toArray below meth c H locs 0 0 (MQ below (QcV D cy ad kdV shM rfM 15 M') ([.ref (ad 0)] : List Value).toArray s 0 0 (AV ad 15)) (F0 m 91 ls []) := by
    intro n
    induction n with
    | zero => intro x1 Ml w25 M26 h; cases h
    | succ n ih =>
      intro x1 Ml w25 M26 h H locs ls hl hW K
      rw [fX7_settles_L91] at h
      refine lv_iload_n S.1 S.2.1 dX7_settles_91 rfl (lv_at hl 1 rfl) ?_
      refine lv_bipush (v := (6 : Int32)) S.1 S.2.1 dX7_settles_92 (by decide) ?_
      refine lv_icmp_ge (tgt := 141) S.1 S.2.1 dX7_settles_94 (by decide) (fun c27 => ?_) (fun c27 => ?_)
      · replace h := (if_pos c27).symm.trans h
        obtain ⟨rfl, rfl⟩ := s2 h
        exact K _ _ _ hl hW
      · replace h := (if_neg c27).symm.trans h
        refine lv_aload_n S.1 S.2.1 dX7_settles_97 rfl (lv_at hl 0 rfl) ?_
        refine fl_get S hK iX7 rfl lM_0 sM_0 14 (by decide) (hq _ q_327) (fun _ h9 => h9) (fvs_R rfl rfl) hW dX7_settles_98 ?_
        refine lv_iconst (v := (1 : Int32)) S.1 S.2.1 dX7_settles_101 (by decide) ?_
        refine lv_iload_n S.1 S.2.1 dX7_settles_102 rfl (lv_at hl 1 rfl) ?_
        refine lv_iadd S.1 S.2.1 dX7_settles_103 ?_
        refine lv_iload_n S.1 S.2.1 dX7_settles_104 rfl (lv_at hl 1 rfl) ?_
        refine lv_aload_n S.1 S.2.1 dX7_settles_105 rfl (lv_at hl 0 rfl) ?_
        refine fl_get S hK iX7 rfl lM_0 sM_0 10 (by decide) (hq _ q_319) (fun _ h9 => h9) (fvs_R rfl rfl) hW dX7_settles_106 ?_
        refine lv_iconst (v := (0 : Int32)) S.1 S.2.1 dX7_settles_109 (by decide) ?_
        refine fl_iald S hK lM_2 sM_2 (vp_dec (i := (0 : Int32)) (n := 8) (by decide)) hW dX7_settles_110 ?_
        refine lv_icmp_ge (tgt := 123) S.1 S.2.1 dX7_settles_111 (by decide) (fun c28 => ?_) (fun c28 => ?_)
        · replace h := (if_pos c28).symm.trans h
          refine lv_iconst (v := (0 : Int32)) S.1 S.2.1 dX7_settles_123 (by decide) ?_
          obtain ⟨g29, h⟩ := ix_some h
          refine fl_iast S hK hJ hA lM_6 sM_6 g29 hW dX7_settles_124 (fun H locs hW => ?_)
          obtain ⟨M30, e31, h⟩ := lt_some h
          rw [e31] at hW
          clear e31
          refine lv_aload_n S.1 S.2.1 dX7_settles_125 rfl (lv_at hl 0 rfl) ?_
          refine fl_get S hK iX7 rfl lM_0 sM_0 14 (by decide) (hq _ q_327) (fun _ h9 => h9) (fvs_R rfl rfl) hW dX7_settles_126 ?_
          refine lv_bipush (v := (7 : Int32)) S.1 S.2.1 dX7_settles_129 (by decide) ?_
          refine lv_iload_n S.1 S.2.1 dX7_settles_131 rfl (lv_at hl 1 rfl) ?_
          refine lv_iadd S.1 S.2.1 dX7_settles_132 ?_
          refine lv_iload_n S.1 S.2.1 dX7_settles_133 rfl (lv_at hl 1 rfl) ?_
          obtain ⟨g32, h⟩ := ix_some h
          refine fl_iast S hK hJ hA lM_6 sM_6 g32 hW dX7_settles_134 (fun H locs hW => ?_)
          obtain ⟨M33, e34, h⟩ := lt_some h
          rw [e34] at hW
          clear e34
          refine lv_iinc (v := x1 + (1 : Int32)) (lv' := [(1, .int (x1 + (1 : Int32))), (0, .ref (ad 0))]) S.1 S.2.1 dX7_settles_135 hl (k := 1) rfl rfl (by decide) rfl (fun ls hl => ?_)
          refine lv_goto (tgt := 91) S.1 S.2.1 dX7_settles_138 (by decide) ?_
          exact ih _ _ _ _ h _ _ _ (lv_sub hl [1, 0] rfl) hW K
        · replace h := (if_neg c28).symm.trans h
          refine lv_aload_n S.1 S.2.1 dX7_settles_114 rfl (lv_at hl 0 rfl) ?_
          refine fl_get S hK iX7 rfl lM_0 sM_0 11 (by decide) (hq _ q_320) (fun _ h9 => h9) (fvs_R rfl rfl) hW dX7_settles_115 ?_
          refine lv_iload_n S.1 S.2.1 dX7_settles_118 rfl (lv_at hl 1 rfl) ?_
          obtain ⟨g35, h⟩ := ix_some h
          refine fl_iald S hK lM_3 sM_3 g35 hW dX7_settles_119 ?_
          refine lv_goto (tgt := 124) S.1 S.2.1 dX7_settles_120 (by decide) ?_
          obtain ⟨g36, h⟩ := ix_some h
          refine fl_iast S hK hJ hA lM_6 sM_6 g36 hW dX7_settles_124 (fun H locs hW => ?_)
          obtain ⟨M37, e38, h⟩ := lt_some h
          rw [e38] at hW
          clear e38
          refine lv_aload_n S.1 S.2.1 dX7_settles_125 rfl (lv_at hl 0 rfl) ?_
          refine fl_get S hK iX7 rfl lM_0 sM_0 14 (by decide) (hq _ q_327) (fun _ h9 => h9) (fvs_R rfl rfl) hW dX7_settles_126 ?_
          refine lv_bipush (v := (7 : Int32)) S.1 S.2.1 dX7_settles_129 (by decide) ?_
          refine lv_iload_n S.1 S.2.1 dX7_settles_131 rfl (lv_at hl 1 rfl) ?_
          refine lv_iadd S.1 S.2.1 dX7_settles_132 ?_
          refine lv_iload_n S.1 S.2.1 dX7_settles_133 rfl (lv_at hl 1 rfl) ?_
          obtain ⟨g39, h⟩ := ix_some h
          refine fl_iast S hK hJ hA lM_6 sM_6 g39 hW dX7_settles_134 (fun H locs hW => ?_)
          obtain ⟨M40, e41, h⟩ := lt_some h
          rw [e41] at hW
          clear e41
          refine lv_iinc (v := x1 + (1 : Int32)) (lv' := [(1, .int (x1 + (1 : Int32))), (0, .ref (ad 0))]) S.1 S.2.1 dX7_settles_135 hl (k := 1) rfl rfl (by decide) rfl (fun ls hl => ?_)
          refine lv_goto (tgt := 91) S.1 S.2.1 dX7_settles_138 (by decide) ?_
          exact ih _ _ _ _ h _ _ _ (lv_sub hl [1, 0] rfl) hW K
  obtain ⟨w25, M26, u52, h⟩ := b2_some h
  refine L91 50000 _ _ _ _ u52 _ _ _ (lv_sub hl [1, 0] rfl) hW (fun H locs ls hl hW => ?_)
  clear L91
  refine lv_aload_n S.1 S.2.1 dX7_settles_141 rfl (lv_at hl 0 rfl) ?_
  refine lv_iconst (v := (0 : Int32)) S.1 S.2.1 dX7_settles_142 (by decide) ?_
  refine fl_put S hK hJ hA tyX7 tyX7_ok nmX7 iX7 rfl lM_0 sM_0 3 (by decide) (hq _ q_292) (fun _ h9 => h9) rfl (ty := .int) rfl rfl rfl (wI M26 0 3 (0 : Int32)) (by decide) (fvs_setI _ _ _ _ _ _ _ rfl) (fun j _ hj => cof_wI_ne hj) hW dX7_settles_143 (fun H locs hW => ?_)
  obtain ⟨M42, e43, h⟩ := lt_some h
  rw [e43] at hW
  clear e43
  refine lv_aload_n S.1 S.2.1 dX7_settles_146 rfl (lv_at hl 0 rfl) ?_
  refine lv_iconst (v := (0 : Int32)) S.1 S.2.1 dX7_settles_147 (by decide) ?_
  refine fl_put S hK hJ hA tyX7 tyX7_ok nmX7 iX7 rfl lM_0 sM_0 21 (by decide) (hq _ q_328) (fun _ h9 => h9) rfl (ty := .int) rfl rfl rfl (wI M42 0 21 (0 : Int32)) (by decide) (fvs_setI _ _ _ _ _ _ _ rfl) (fun j _ hj => cof_wI_ne hj) hW dX7_settles_148 (fun H locs hW => ?_)
  obtain ⟨M44, e45, h⟩ := lt_some h
  rw [e45] at hW
  clear e45
  refine lv_aload_n S.1 S.2.1 dX7_settles_151 rfl (lv_at hl 0 rfl) ?_
  refine lv_iconst (v := (0 : Int32)) S.1 S.2.1 dX7_settles_152 (by decide) ?_
  refine fl_put S hK hJ hA tyX7 tyX7_ok nmX7 iX7 rfl lM_0 sM_0 18 (by decide) (hq _ q_329) (fun _ h9 => h9) rfl (ty := .int) rfl rfl rfl (wI M44 0 18 (0 : Int32)) (by decide) (fvs_setI _ _ _ _ _ _ _ rfl) (fun j _ hj => cof_wI_ne hj) hW dX7_settles_153 (fun H locs hW => ?_)
  obtain ⟨M46, e47, h⟩ := lt_some h
  rw [e47] at hW
  clear e47
  refine lv_aload_n S.1 S.2.1 dX7_settles_156 rfl (lv_at hl 0 rfl) ?_
  refine fl_get S hK iX7 rfl lM_0 sM_0 16 (by decide) (hq _ q_330) (fun _ h9 => h9) (fvs_R rfl rfl) hW dX7_settles_157 ?_
  refine lv_iconst (v := (0 : Int32)) S.1 S.2.1 dX7_settles_160 (by decide) ?_
  refine lv_iconst (v := (0 : Int32)) S.1 S.2.1 dX7_settles_161 (by decide) ?_
  refine fl_zast S hK hJ hA lM_8 sM_8 (vp_dec (i := (0 : Int32)) (n := 2) (by decide)) (zb_nar (Or.inl rfl)) hW dX7_settles_162 (fun H locs hW => ?_)
  obtain ⟨M48, e49, h⟩ := lt_some h
  rw [e49] at hW
  clear e49
  refine lv_aload_n S.1 S.2.1 dX7_settles_163 rfl (lv_at hl 0 rfl) ?_
  refine fl_get S hK iX7 rfl lM_0 sM_0 16 (by decide) (hq _ q_330) (fun _ h9 => h9) (fvs_R rfl rfl) hW dX7_settles_164 ?_
  refine lv_iconst (v := (1 : Int32)) S.1 S.2.1 dX7_settles_167 (by decide) ?_
  refine lv_iconst (v := (0 : Int32)) S.1 S.2.1 dX7_settles_168 (by decide) ?_
  refine fl_zast S hK hJ hA lM_8 sM_8 (vp_dec (i := (1 : Int32)) (n := 2) (by decide)) (zb_nar (Or.inl rfl)) hW dX7_settles_169 (fun H locs hW => ?_)
  obtain ⟨M50, e51, h⟩ := lt_some h
  rw [e51] at hW
  clear e51
  obtain rfl := s1 h
  exact fl_vret S.1 S.2.1 hr hlocks hW dX7_settles_170
def fX7_town_L25  : Nat → Int32 → Mm → Option (Int32 × Mm)
  | 0, _, _ => none
  | n + 1, x1, Ml => bP (fX7_isWell Ml) (fun (v14 : Int32) => if v14 = 0 then (some (x1, Ml)) else (if (Ml.1 0 5) = 0 then (some (x1, Ml)) else (if (Ml.1 0 5) = (1 : Int32) then (bP (fX7_mayBegin Ml) (fun (v19 : Int32) => if v19 = 0 then (b2 (fX7_takes (0 : Int32) Ml) (fun (v22 : Int32) (M23 : Mm) => bP (fX7_isWell M23) (fun (v25 : Int32) => if v25 = 0 then (if (M23.1 0 5) = (3 : Int32) then (b2 (fX7_takes (1 : Int32) M23) (fun (v29 : Int32) (M30 : Mm) => fX7_town_L25 n (x1 + (1 : Int32)) M30)) else (b2 (fX7_takes (0 : Int32) M23) (fun (v32 : Int32) (M33 : Mm) => fX7_town_L25 n (x1 + (1 : Int32)) M33))) else (bP (fX7_readsItem v22 M23) (fun (M35 : Mm) => if (M35.1 0 5) = (3 : Int32) then (b2 (fX7_takes (1 : Int32) M35) (fun (v38 : Int32) (M39 : Mm) => fX7_town_L25 n (x1 + (1 : Int32)) M39)) else (b2 (fX7_takes (0 : Int32) M35) (fun (v41 : Int32) (M42 : Mm) => fX7_town_L25 n (x1 + (1 : Int32)) M42))))))) else (b2 (fX7_takes (1 : Int32) Ml) (fun (v44 : Int32) (M45 : Mm) => bP (fX7_isWell M45) (fun (v47 : Int32) => if v47 = 0 then (if (M45.1 0 5) = (3 : Int32) then (b2 (fX7_takes (1 : Int32) M45) (fun (v51 : Int32) (M52 : Mm) => fX7_town_L25 n (x1 + (1 : Int32)) M52)) else (b2 (fX7_takes (0 : Int32) M45) (fun (v54 : Int32) (M55 : Mm) => fX7_town_L25 n (x1 + (1 : Int32)) M55))) else (bP (fX7_readsItem v44 M45) (fun (M57 : Mm) => if (M57.1 0 5) = (3 : Int32) then (b2 (fX7_takes (1 : Int32) M57) (fun (v60 : Int32) (M61 : Mm) => fX7_town_L25 n (x1 + (1 : Int32)) M61)) else (b2 (fX7_takes (0 : Int32) M57) (fun (v63 : Int32) (M64 : Mm) => fX7_town_L25 n (x1 + (1 : Int32)) M64))))))))) else (b2 (fX7_takes (0 : Int32) Ml) (fun (v66 : Int32) (M67 : Mm) => bP (fX7_isWell M67) (fun (v69 : Int32) => if v69 = 0 then (if (M67.1 0 5) = (3 : Int32) then (b2 (fX7_takes (1 : Int32) M67) (fun (v73 : Int32) (M74 : Mm) => fX7_town_L25 n (x1 + (1 : Int32)) M74)) else (b2 (fX7_takes (0 : Int32) M67) (fun (v76 : Int32) (M77 : Mm) => fX7_town_L25 n (x1 + (1 : Int32)) M77))) else (bP (fX7_readsItem v66 M67) (fun (M79 : Mm) => if (M79.1 0 5) = (3 : Int32) then (b2 (fX7_takes (1 : Int32) M79) (fun (v82 : Int32) (M83 : Mm) => fX7_town_L25 n (x1 + (1 : Int32)) M83)) else (b2 (fX7_takes (0 : Int32) M79) (fun (v85 : Int32) (M86 : Mm) => fX7_town_L25 n (x1 + (1 : Int32)) M86))))))))))
def fX7_town (M : Mm) : Option (Int32 × Mm) :=
  lt (wI M 0 0 (0 : Int32)) (fun (M1 : Mm) => lt (wI M1 0 8 (-1 : Int32)) (fun (M3 : Mm) => lt (wI M3 0 4 (0 : Int32)) (fun (M5 : Mm) => bP (fX7_begins M5) (fun (M8 : Mm) => bP (fX7_advances M8) (fun (M10 : Mm) => b2 (fX7_town_L25 50000 (0 : Int32) M10) (fun (w11 : Int32) (M12 : Mm) => bP (fX7_isWell M12) (fun (v88 : Int32) => if v88 = 0 then (some ((-10 : Int32) - (M12.1 0 8), M12)) else (bP (fX7_settles M12) (fun (M91 : Mm) => some (w11, M91))))))))))
set_option maxHeartbeats 4000000 in
set_option maxRecDepth 100000 in
theorem kX7_town (l : Launch) {D : va_G} {cy : Nat → ClassId} {ad : Nat → Nat} (hJ : Inj ad 15)   (M : Mm) (r : Int32) (M' : Mm) (h : fX7_town M = some (r, M')) : Met l yX7_town vX7_town ({ frames := 5, cells := 0, slots := 0, locals := 109 } : Room) (PcF [.ref (ad 0)] D cy ad kdV shM rfM 15 M) (QcI r D cy ad kdV shM rfM 15 M') 0 0 (AV ad 15) := by
  refine Met.ofW (cc := cX7_town) (maxL := 3) (ret := (some .int)) (by decide) rfl ?_
  intro p e s m args below meth c s₁ B hml hv
  obtain ⟨rfl, hP, hK, hN⟩ := hv
  have hr := B.returns
  have hlocks := B.notSynchronized
  have S : CallFix p m c cX7_town 3 s ([.ref (ad 0)] : List Value).toArray vX7_town RX7 := ⟨B.exec, B.bytes, hml, findClass_of_methodNamed B.named, atoms_spec (ws := vX7_town) B.pre⟩
  have hq : ∀ w ∈ GW, w.before ([.ref (ad 0)] : List Value).toArray s = true := fun w h => S.2.2.2.2 w (List.mem_cons_of_mem _ h)
  have hA : ∀ k, k < 15 → AV ad 15 (ad k) := fun k hk => ⟨k, hk, rfl⟩
  have hW : WSt D cy ad kdV shM rfM 15 (AV ad 15) M s.heap s.heap [] := ⟨hP, va_S.rf⟩
  clear hP
  have iX7 : ∀ w ∈ wsX70, w ∈ vX7_town := fun w h => List.mem_cons_of_mem _ (inX7 w h)
  have hl := lv_entry ([.ref (ad 0)]) (n := 3) (Nat.le_of_ble_eq_true rfl)
  rw [lg_entry_eq]
  generalize (lg_sl ([.ref (ad 0)]) ++ List.replicate (3 - (lg_sl ([.ref (ad 0)])).length) Slot.unset).toArray = ls at hl ⊢
  have hl : lv_has ls 3 [(0, .ref (ad 0))] := hl
  rw [fX7_town] at h
  refine lv_aload_n S.1 S.2.1 dX7_town_0 rfl (lv_at hl 0 rfl) ?_
  refine lv_iconst (v := (0 : Int32)) S.1 S.2.1 dX7_town_1 (by decide) ?_
  refine fl_put S hK hJ hA tyX7 tyX7_ok nmX7 iX7 rfl lM_0 sM_0 0 (by decide) (hq _ q_287) (fun _ h9 => h9) rfl (ty := .int) rfl rfl rfl (wI M 0 0 (0 : Int32)) (by decide) (fvs_setI _ _ _ _ _ _ _ rfl) (fun j _ hj => cof_wI_ne hj) hW dX7_town_2 (fun H locs hW => ?_)
  obtain ⟨M1, e2, h⟩ := lt_some h
  rw [e2] at hW
  clear e2
  refine lv_aload_n S.1 S.2.1 dX7_town_5 rfl (lv_at hl 0 rfl) ?_
  refine lv_iconst (v := (-1 : Int32)) S.1 S.2.1 dX7_town_6 (by decide) ?_
  refine fl_put S hK hJ hA tyX7 tyX7_ok nmX7 iX7 rfl lM_0 sM_0 8 (by decide) (hq _ q_305) (fun _ h9 => h9) rfl (ty := .int) rfl rfl rfl (wI M1 0 8 (-1 : Int32)) (by decide) (fvs_setI _ _ _ _ _ _ _ rfl) (fun j _ hj => cof_wI_ne hj) hW dX7_town_7 (fun H locs hW => ?_)
  obtain ⟨M3, e4, h⟩ := lt_some h
  rw [e4] at hW
  clear e4
  refine lv_aload_n S.1 S.2.1 dX7_town_10 rfl (lv_at hl 0 rfl) ?_
  refine lv_iconst (v := (0 : Int32)) S.1 S.2.1 dX7_town_11 (by decide) ?_
  refine fl_put S hK hJ hA tyX7 tyX7_ok nmX7 iX7 rfl lM_0 sM_0 4 (by decide) (hq _ q_294) (fun _ h9 => h9) rfl (ty := .int) rfl rfl rfl (wI M3 0 4 (0 : Int32)) (by decide) (fvs_setI _ _ _ _ _ _ _ rfl) (fun j _ hj => cof_wI_ne hj) hW dX7_town_12 (fun H locs hW => ?_)
  obtain ⟨M5, e6, h⟩ := lt_some h
  rw [e6] at hW
  clear e6
  refine lv_aload_n S.1 S.2.1 dX7_town_15 rfl (lv_at hl 0 rfl) ?_
  obtain ⟨M8, u7, h⟩ := bP_some h
  refine fl_doneV (fl_runV S hK hN (kX7_begins l hJ M5 M8 u7) (cwV 0 S.2.2.2.2 (gV q_332 q_333 q_334 q_291 q_331) rfl rfl rfl (by decide +kernel) ⟨Nat.le_of_ble_eq_true rfl, Nat.le_of_ble_eq_true rfl⟩) (ci := 7) rfl lM_0 sM_0 rfl hl.1 rfl (Nat.le_of_ble_eq_true rfl) dX7_town_16 ⟨Nat.zero_le _, Nat.zero_le _⟩ hW) hA hW.2 (fun H locs hW => ?_)
  refine lv_iconst (v := (0 : Int32)) S.1 S.2.1 dX7_town_19 (by decide) ?_
  refine lv_istore_n (lv' := [(1, .int (0 : Int32)), (0, .ref (ad 0))]) S.1 S.2.1 dX7_town_20 rfl hl (by decide) rfl (fun ls hl => ?_)
  refine lv_aload_n S.1 S.2.1 dX7_town_21 rfl (lv_at hl 1 rfl) ?_
  obtain ⟨M10, u9, h⟩ := bP_some h
  refine fl_doneV (fl_runV S hK hN (kX7_advances l hJ M8 M10 u9) (cwV 0 S.2.2.2.2 (gV q_311 q_312 q_313 q_291 q_310) rfl rfl rfl (by decide +kernel) ⟨Nat.le_of_ble_eq_true rfl, Nat.le_of_ble_eq_true rfl⟩) (ci := 7) rfl lM_0 sM_0 rfl hl.1 rfl (Nat.le_of_ble_eq_true rfl) dX7_town_22 ⟨Nat.zero_le _, Nat.zero_le _⟩ hW) hA hW.2 (fun H locs hW => ?_)
  have L25 : ∀ (n : Nat) (x1 : Int32) (Ml : Mm) (w11 : Int32) (M12 : Mm), fX7_town_L25 n x1 Ml = some (w11, M12) → ∀ (H : Heap) (locs : List Loc) (ls : Array Slot), lv_has ls 3 [(0, .ref (ad 0)), (1, .int x1)] → WSt D cy ad kdV shM rfM 15 (AV ad 15) Ml s.heap H locs → (∀ (H : Heap) (locs : List Loc) (ls : Array Slot), lv_has ls 3 [(0, .ref (ad 0)), (1, .int w11)] → WSt D cy ad kdV shM rfM 15 (AV ad 15) M12 s.heap H locs → W p l e (headSpec vX7_town ({ frames := 5, cells := 0, slots := 0, locals := 109 } : Room)).room s m ([.ref (ad 0)] : List Value).toArray below meth c H locs 0 0 (MQ below (QcI r D cy ad kdV shM rfM 15 M') ([.ref (ad 0)] : List Value).toArray s 0 0 (AV ad 15)) (F0 m 100 ls [])) → W p l e (headSpec vX7_town ({ frames := 5, cells := 0, slots := 0, locals := 109 } : Room)).room s m ([.ref (ad 0)] : List Value).toArray below meth c H locs 0 0 (MQ below (QcI r D cy ad kdV shM rfM 15 M') ([.ref (ad 0)] : List Value).toArray s 0 0 (AV ad 15)) (F0 m 25 ls []) := by
    intro n
    induction n with
    | zero => intro x1 Ml w11 M12 h; cases h
    | succ n ih =>
      intro x1 Ml w11 M12 h H locs ls hl hW K
      rw [fX7_town_L25] at h
      refine lv_aload_n S.1 S.2.1 dX7_town_25 rfl (lv_at hl 0 rfl) ?_
      obtain ⟨v14, u13, h⟩ := bP_some h
      refine fl_doneI (fl_runV S hK hN (kX7_isWell l hJ Ml v14 u13) (cwV 0 S.2.2.2.2 (gV q_307 q_308 q_309 q_291 q_306) rfl rfl rfl (by decide +kernel) ⟨Nat.le_of_ble_eq_true rfl, Nat.le_of_ble_eq_true rfl⟩) (ci := 7) rfl lM_0 sM_0 rfl hl.1 rfl (Nat.le_of_ble_eq_true rfl) dX7_town_26 ⟨Nat.zero_le _, Nat.zero_le _⟩ hW) hA hW.2 (fun H locs hW => ?_)
      refine lv_if_eq (tgt := 100) S.1 S.2.1 dX7_town_29 (by decide) (fun c15 => ?_) (fun c15 => ?_)
      · replace h := (if_pos c15).symm.trans h
        obtain ⟨rfl, rfl⟩ := s2 h
        exact K _ _ _ hl hW
      · replace h := (if_neg c15).symm.trans h
        refine lv_aload_n S.1 S.2.1 dX7_town_32 rfl (lv_at hl 0 rfl) ?_
        refine fl_get S hK iX7 rfl lM_0 sM_0 5 (by decide) (hq _ q_301) (fun _ h9 => h9) (fvs_I rfl) hW dX7_town_33 ?_
        refine lv_if_eq (tgt := 100) S.1 S.2.1 dX7_town_36 (by decide) (fun c16 => ?_) (fun c16 => ?_)
        · replace h := (if_pos c16).symm.trans h
          obtain ⟨rfl, rfl⟩ := s2 h
          exact K _ _ _ hl hW
        · replace h := (if_neg c16).symm.trans h
          refine lv_aload_n S.1 S.2.1 dX7_town_39 rfl (lv_at hl 0 rfl) ?_
          refine lv_aload_n S.1 S.2.1 dX7_town_40 rfl (lv_at hl 0 rfl) ?_
          refine fl_get S hK iX7 rfl lM_0 sM_0 5 (by decide) (hq _ q_301) (fun _ h9 => h9) (fvs_I rfl) hW dX7_town_41 ?_
          refine lv_iconst (v := (1 : Int32)) S.1 S.2.1 dX7_town_44 (by decide) ?_
          refine lv_icmp_ne (tgt := 59) S.1 S.2.1 dX7_town_45 (by decide) (fun c17 => ?_) (fun c17 => ?_)
          · replace h := (if_neg c17).symm.trans h
            refine lv_iconst (v := (0 : Int32)) S.1 S.2.1 dX7_town_59 (by decide) ?_
            obtain ⟨v66, M67, u65, h⟩ := b2_some h
            refine fl_doneI (fl_runV S hK hN (kX7_takes l hJ (0 : Int32) Ml v66 M67 u65) (cwV 1 S.2.2.2.2 (gV q_315 q_316 q_317 q_291 q_314) rfl rfl rfl (by decide +kernel) ⟨Nat.le_of_ble_eq_true rfl, Nat.le_of_ble_eq_true rfl⟩) (ci := 7) rfl lM_0 sM_0 rfl hl.1 rfl (Nat.le_of_ble_eq_true rfl) dX7_town_60 ⟨Nat.zero_le _, Nat.zero_le _⟩ hW) hA hW.2 (fun H locs hW => ?_)
            refine lv_istore_n (lv' := [(2, .int v66), (0, .ref (ad 0)), (1, .int x1)]) S.1 S.2.1 dX7_town_63 rfl hl (by decide) rfl (fun ls hl => ?_)
            refine lv_aload_n S.1 S.2.1 dX7_town_64 rfl (lv_at hl 1 rfl) ?_
            obtain ⟨v69, u68, h⟩ := bP_some h
            refine fl_doneI (fl_runV S hK hN (kX7_isWell l hJ M67 v69 u68) (cwV 0 S.2.2.2.2 (gV q_307 q_308 q_309 q_291 q_306) rfl rfl rfl (by decide +kernel) ⟨Nat.le_of_ble_eq_true rfl, Nat.le_of_ble_eq_true rfl⟩) (ci := 7) rfl lM_0 sM_0 rfl hl.1 rfl (Nat.le_of_ble_eq_true rfl) dX7_town_65 ⟨Nat.zero_le _, Nat.zero_le _⟩ hW) hA hW.2 (fun H locs hW => ?_)
            refine lv_if_eq (tgt := 76) S.1 S.2.1 dX7_town_68 (by decide) (fun c70 => ?_) (fun c70 => ?_)
            · replace h := (if_pos c70).symm.trans h
              refine lv_aload_n S.1 S.2.1 dX7_town_76 rfl (lv_at hl 1 rfl) ?_
              refine lv_aload_n S.1 S.2.1 dX7_town_77 rfl (lv_at hl 1 rfl) ?_
              refine fl_get S hK iX7 rfl lM_0 sM_0 5 (by decide) (hq _ q_301) (fun _ h9 => h9) (fvs_I rfl) hW dX7_town_78 ?_
              refine lv_iconst (v := (3 : Int32)) S.1 S.2.1 dX7_town_81 (by decide) ?_
              refine lv_icmp_ne (tgt := 89) S.1 S.2.1 dX7_town_82 (by decide) (fun c71 => ?_) (fun c71 => ?_)
              · replace h := (if_neg c71).symm.trans h
                refine lv_iconst (v := (0 : Int32)) S.1 S.2.1 dX7_town_89 (by decide) ?_
                obtain ⟨v76, M77, u75, h⟩ := b2_some h
                refine fl_doneI (fl_runV S hK hN (kX7_takes l hJ (0 : Int32) M67 v76 M77 u75) (cwV 1 S.2.2.2.2 (gV q_315 q_316 q_317 q_291 q_314) rfl rfl rfl (by decide +kernel) ⟨Nat.le_of_ble_eq_true rfl, Nat.le_of_ble_eq_true rfl⟩) (ci := 7) rfl lM_0 sM_0 rfl hl.1 rfl (Nat.le_of_ble_eq_true rfl) dX7_town_90 ⟨Nat.zero_le _, Nat.zero_le _⟩ hW) hA hW.2 (fun H locs hW => ?_)
                refine lv_pop S.1 S.2.1 dX7_town_93 rfl ?_
                refine lv_iinc (v := x1 + (1 : Int32)) (lv' := [(1, .int (x1 + (1 : Int32))), (2, .int v66), (0, .ref (ad 0))]) S.1 S.2.1 dX7_town_94 hl (k := 2) rfl rfl (by decide) rfl (fun ls hl => ?_)
                refine lv_goto (tgt := 25) S.1 S.2.1 dX7_town_97 (by decide) ?_
                exact ih _ _ _ _ h _ _ _ (lv_sub hl [2, 0] rfl) hW K
              · replace h := (if_pos c71).symm.trans h
                refine lv_iconst (v := (1 : Int32)) S.1 S.2.1 dX7_town_85 (by decide) ?_
                refine lv_goto (tgt := 90) S.1 S.2.1 dX7_town_86 (by decide) ?_
                obtain ⟨v73, M74, u72, h⟩ := b2_some h
                refine fl_doneI (fl_runV S hK hN (kX7_takes l hJ (1 : Int32) M67 v73 M74 u72) (cwV 1 S.2.2.2.2 (gV q_315 q_316 q_317 q_291 q_314) rfl rfl rfl (by decide +kernel) ⟨Nat.le_of_ble_eq_true rfl, Nat.le_of_ble_eq_true rfl⟩) (ci := 7) rfl lM_0 sM_0 rfl hl.1 rfl (Nat.le_of_ble_eq_true rfl) dX7_town_90 ⟨Nat.zero_le _, Nat.zero_le _⟩ hW) hA hW.2 (fun H locs hW => ?_)
                refine lv_pop S.1 S.2.1 dX7_town_93 rfl ?_
                refine lv_iinc (v := x1 + (1 : Int32)) (lv' := [(1, .int (x1 + (1 : Int32))), (2, .int v66), (0, .ref (ad 0))]) S.1 S.2.1 dX7_town_94 hl (k := 2) rfl rfl (by decide) rfl (fun ls hl => ?_)
                refine lv_goto (tgt := 25) S.1 S.2.1 dX7_town_97 (by decide) ?_
                exact ih _ _ _ _ h _ _ _ (lv_sub hl [2, 0] rfl) hW K
            · replace h := (if_neg c70).symm.trans h
              refine lv_aload_n S.1 S.2.1 dX7_town_71 rfl (lv_at hl 1 rfl) ?_
              refine lv_iload_n S.1 S.2.1 dX7_town_72 rfl (lv_at hl 0 rfl) ?_
              obtain ⟨M79, u78, h⟩ := bP_some h
              refine fl_doneV (fl_runV S hK hN (kX7_readsItem l hJ v66 M67 M79 u78) (cwV 1 S.2.2.2.2 (gV q_340 q_341 q_342 q_291 q_339) rfl rfl rfl (by decide +kernel) ⟨Nat.le_of_ble_eq_true rfl, Nat.le_of_ble_eq_true rfl⟩) (ci := 7) rfl lM_0 sM_0 rfl hl.1 rfl (Nat.le_of_ble_eq_true rfl) dX7_town_73 ⟨Nat.zero_le _, Nat.zero_le _⟩ hW) hA hW.2 (fun H locs hW => ?_)
              refine lv_aload_n S.1 S.2.1 dX7_town_76 rfl (lv_at hl 1 rfl) ?_
              refine lv_aload_n S.1 S.2.1 dX7_town_77 rfl (lv_at hl 1 rfl) ?_
              refine fl_get S hK iX7 rfl lM_0 sM_0 5 (by decide) (hq _ q_301) (fun _ h9 => h9) (fvs_I rfl) hW dX7_town_78 ?_
              refine lv_iconst (v := (3 : Int32)) S.1 S.2.1 dX7_town_81 (by decide) ?_
              refine lv_icmp_ne (tgt := 89) S.1 S.2.1 dX7_town_82 (by decide) (fun c80 => ?_) (fun c80 => ?_)
              · replace h := (if_neg c80).symm.trans h
                refine lv_iconst (v := (0 : Int32)) S.1 S.2.1 dX7_town_89 (by decide) ?_
                obtain ⟨v85, M86, u84, h⟩ := b2_some h
                refine fl_doneI (fl_runV S hK hN (kX7_takes l hJ (0 : Int32) M79 v85 M86 u84) (cwV 1 S.2.2.2.2 (gV q_315 q_316 q_317 q_291 q_314) rfl rfl rfl (by decide +kernel) ⟨Nat.le_of_ble_eq_true rfl, Nat.le_of_ble_eq_true rfl⟩) (ci := 7) rfl lM_0 sM_0 rfl hl.1 rfl (Nat.le_of_ble_eq_true rfl) dX7_town_90 ⟨Nat.zero_le _, Nat.zero_le _⟩ hW) hA hW.2 (fun H locs hW => ?_)
                refine lv_pop S.1 S.2.1 dX7_town_93 rfl ?_
                refine lv_iinc (v := x1 + (1 : Int32)) (lv' := [(1, .int (x1 + (1 : Int32))), (2, .int v66), (0, .ref (ad 0))]) S.1 S.2.1 dX7_town_94 hl (k := 2) rfl rfl (by decide) rfl (fun ls hl => ?_)
                refine lv_goto (tgt := 25) S.1 S.2.1 dX7_town_97 (by decide) ?_
                exact ih _ _ _ _ h _ _ _ (lv_sub hl [2, 0] rfl) hW K
              · replace h := (if_pos c80).symm.trans h
                refine lv_iconst (v := (1 : Int32)) S.1 S.2.1 dX7_town_85 (by decide) ?_
                refine lv_goto (tgt := 90) S.1 S.2.1 dX7_town_86 (by decide) ?_
                obtain ⟨v82, M83, u81, h⟩ := b2_some h
                refine fl_doneI (fl_runV S hK hN (kX7_takes l hJ (1 : Int32) M79 v82 M83 u81) (cwV 1 S.2.2.2.2 (gV q_315 q_316 q_317 q_291 q_314) rfl rfl rfl (by decide +kernel) ⟨Nat.le_of_ble_eq_true rfl, Nat.le_of_ble_eq_true rfl⟩) (ci := 7) rfl lM_0 sM_0 rfl hl.1 rfl (Nat.le_of_ble_eq_true rfl) dX7_town_90 ⟨Nat.zero_le _, Nat.zero_le _⟩ hW) hA hW.2 (fun H locs hW => ?_)
                refine lv_pop S.1 S.2.1 dX7_town_93 rfl ?_
                refine lv_iinc (v := x1 + (1 : Int32)) (lv' := [(1, .int (x1 + (1 : Int32))), (2, .int v66), (0, .ref (ad 0))]) S.1 S.2.1 dX7_town_94 hl (k := 2) rfl rfl (by decide) rfl (fun ls hl => ?_)
                refine lv_goto (tgt := 25) S.1 S.2.1 dX7_town_97 (by decide) ?_
                exact ih _ _ _ _ h _ _ _ (lv_sub hl [2, 0] rfl) hW K
          · replace h := (if_pos c17).symm.trans h
            refine lv_aload_n S.1 S.2.1 dX7_town_48 rfl (lv_at hl 0 rfl) ?_
            obtain ⟨v19, u18, h⟩ := bP_some h
            refine fl_doneI (fl_runV S hK hN (kX7_mayBegin l hJ Ml v19 u18) (cwV 0 S.2.2.2.2 (gV q_336 q_337 q_338 q_291 q_335) rfl rfl rfl (by decide +kernel) ⟨Nat.le_of_ble_eq_true rfl, Nat.le_of_ble_eq_true rfl⟩) (ci := 7) rfl lM_0 sM_0 rfl hl.1 rfl (Nat.le_of_ble_eq_true rfl) dX7_town_49 ⟨Nat.zero_le _, Nat.zero_le _⟩ hW) hA hW.2 (fun H locs hW => ?_)
            refine lv_if_eq (tgt := 59) S.1 S.2.1 dX7_town_52 (by decide) (fun c20 => ?_) (fun c20 => ?_)
            · replace h := (if_pos c20).symm.trans h
              refine lv_iconst (v := (0 : Int32)) S.1 S.2.1 dX7_town_59 (by decide) ?_
              obtain ⟨v22, M23, u21, h⟩ := b2_some h
              refine fl_doneI (fl_runV S hK hN (kX7_takes l hJ (0 : Int32) Ml v22 M23 u21) (cwV 1 S.2.2.2.2 (gV q_315 q_316 q_317 q_291 q_314) rfl rfl rfl (by decide +kernel) ⟨Nat.le_of_ble_eq_true rfl, Nat.le_of_ble_eq_true rfl⟩) (ci := 7) rfl lM_0 sM_0 rfl hl.1 rfl (Nat.le_of_ble_eq_true rfl) dX7_town_60 ⟨Nat.zero_le _, Nat.zero_le _⟩ hW) hA hW.2 (fun H locs hW => ?_)
              refine lv_istore_n (lv' := [(2, .int v22), (0, .ref (ad 0)), (1, .int x1)]) S.1 S.2.1 dX7_town_63 rfl hl (by decide) rfl (fun ls hl => ?_)
              refine lv_aload_n S.1 S.2.1 dX7_town_64 rfl (lv_at hl 1 rfl) ?_
              obtain ⟨v25, u24, h⟩ := bP_some h
              refine fl_doneI (fl_runV S hK hN (kX7_isWell l hJ M23 v25 u24) (cwV 0 S.2.2.2.2 (gV q_307 q_308 q_309 q_291 q_306) rfl rfl rfl (by decide +kernel) ⟨Nat.le_of_ble_eq_true rfl, Nat.le_of_ble_eq_true rfl⟩) (ci := 7) rfl lM_0 sM_0 rfl hl.1 rfl (Nat.le_of_ble_eq_true rfl) dX7_town_65 ⟨Nat.zero_le _, Nat.zero_le _⟩ hW) hA hW.2 (fun H locs hW => ?_)
              refine lv_if_eq (tgt := 76) S.1 S.2.1 dX7_town_68 (by decide) (fun c26 => ?_) (fun c26 => ?_)
              · replace h := (if_pos c26).symm.trans h
                refine lv_aload_n S.1 S.2.1 dX7_town_76 rfl (lv_at hl 1 rfl) ?_
                refine lv_aload_n S.1 S.2.1 dX7_town_77 rfl (lv_at hl 1 rfl) ?_
                refine fl_get S hK iX7 rfl lM_0 sM_0 5 (by decide) (hq _ q_301) (fun _ h9 => h9) (fvs_I rfl) hW dX7_town_78 ?_
                refine lv_iconst (v := (3 : Int32)) S.1 S.2.1 dX7_town_81 (by decide) ?_
                refine lv_icmp_ne (tgt := 89) S.1 S.2.1 dX7_town_82 (by decide) (fun c27 => ?_) (fun c27 => ?_)
                · replace h := (if_neg c27).symm.trans h
                  refine lv_iconst (v := (0 : Int32)) S.1 S.2.1 dX7_town_89 (by decide) ?_
                  obtain ⟨v32, M33, u31, h⟩ := b2_some h
                  refine fl_doneI (fl_runV S hK hN (kX7_takes l hJ (0 : Int32) M23 v32 M33 u31) (cwV 1 S.2.2.2.2 (gV q_315 q_316 q_317 q_291 q_314) rfl rfl rfl (by decide +kernel) ⟨Nat.le_of_ble_eq_true rfl, Nat.le_of_ble_eq_true rfl⟩) (ci := 7) rfl lM_0 sM_0 rfl hl.1 rfl (Nat.le_of_ble_eq_true rfl) dX7_town_90 ⟨Nat.zero_le _, Nat.zero_le _⟩ hW) hA hW.2 (fun H locs hW => ?_)
                  refine lv_pop S.1 S.2.1 dX7_town_93 rfl ?_
                  refine lv_iinc (v := x1 + (1 : Int32)) (lv' := [(1, .int (x1 + (1 : Int32))), (2, .int v22), (0, .ref (ad 0))]) S.1 S.2.1 dX7_town_94 hl (k := 2) rfl rfl (by decide) rfl (fun ls hl => ?_)
                  refine lv_goto (tgt := 25) S.1 S.2.1 dX7_town_97 (by decide) ?_
                  exact ih _ _ _ _ h _ _ _ (lv_sub hl [2, 0] rfl) hW K
                · replace h := (if_pos c27).symm.trans h
                  refine lv_iconst (v := (1 : Int32)) S.1 S.2.1 dX7_town_85 (by decide) ?_
                  refine lv_goto (tgt := 90) S.1 S.2.1 dX7_town_86 (by decide) ?_
                  obtain ⟨v29, M30, u28, h⟩ := b2_some h
                  refine fl_doneI (fl_runV S hK hN (kX7_takes l hJ (1 : Int32) M23 v29 M30 u28) (cwV 1 S.2.2.2.2 (gV q_315 q_316 q_317 q_291 q_314) rfl rfl rfl (by decide +kernel) ⟨Nat.le_of_ble_eq_true rfl, Nat.le_of_ble_eq_true rfl⟩) (ci := 7) rfl lM_0 sM_0 rfl hl.1 rfl (Nat.le_of_ble_eq_true rfl) dX7_town_90 ⟨Nat.zero_le _, Nat.zero_le _⟩ hW) hA hW.2 (fun H locs hW => ?_)
                  refine lv_pop S.1 S.2.1 dX7_town_93 rfl ?_
                  refine lv_iinc (v := x1 + (1 : Int32)) (lv' := [(1, .int (x1 + (1 : Int32))), (2, .int v22), (0, .ref (ad 0))]) S.1 S.2.1 dX7_town_94 hl (k := 2) rfl rfl (by decide) rfl (fun ls hl => ?_)
                  refine lv_goto (tgt := 25) S.1 S.2.1 dX7_town_97 (by decide) ?_
                  exact ih _ _ _ _ h _ _ _ (lv_sub hl [2, 0] rfl) hW K
              · replace h := (if_neg c26).symm.trans h
                refine lv_aload_n S.1 S.2.1 dX7_town_71 rfl (lv_at hl 1 rfl) ?_
                refine lv_iload_n S.1 S.2.1 dX7_town_72 rfl (lv_at hl 0 rfl) ?_
                obtain ⟨M35, u34, h⟩ := bP_some h
                refine fl_doneV (fl_runV S hK hN (kX7_readsItem l hJ v22 M23 M35 u34) (cwV 1 S.2.2.2.2 (gV q_340 q_341 q_342 q_291 q_339) rfl rfl rfl (by decide +kernel) ⟨Nat.le_of_ble_eq_true rfl, Nat.le_of_ble_eq_true rfl⟩) (ci := 7) rfl lM_0 sM_0 rfl hl.1 rfl (Nat.le_of_ble_eq_true rfl) dX7_town_73 ⟨Nat.zero_le _, Nat.zero_le _⟩ hW) hA hW.2 (fun H locs hW => ?_)
                refine lv_aload_n S.1 S.2.1 dX7_town_76 rfl (lv_at hl 1 rfl) ?_
                refine lv_aload_n S.1 S.2.1 dX7_town_77 rfl (lv_at hl 1 rfl) ?_
                refine fl_get S hK iX7 rfl lM_0 sM_0 5 (by decide) (hq _ q_301) (fun _ h9 => h9) (fvs_I rfl) hW dX7_town_78 ?_
                refine lv_iconst (v := (3 : Int32)) S.1 S.2.1 dX7_town_81 (by decide) ?_
                refine lv_icmp_ne (tgt := 89) S.1 S.2.1 dX7_town_82 (by decide) (fun c36 => ?_) (fun c36 => ?_)
                · replace h := (if_neg c36).symm.trans h
                  refine lv_iconst (v := (0 : Int32)) S.1 S.2.1 dX7_town_89 (by decide) ?_
                  obtain ⟨v41, M42, u40, h⟩ := b2_some h
                  refine fl_doneI (fl_runV S hK hN (kX7_takes l hJ (0 : Int32) M35 v41 M42 u40) (cwV 1 S.2.2.2.2 (gV q_315 q_316 q_317 q_291 q_314) rfl rfl rfl (by decide +kernel) ⟨Nat.le_of_ble_eq_true rfl, Nat.le_of_ble_eq_true rfl⟩) (ci := 7) rfl lM_0 sM_0 rfl hl.1 rfl (Nat.le_of_ble_eq_true rfl) dX7_town_90 ⟨Nat.zero_le _, Nat.zero_le _⟩ hW) hA hW.2 (fun H locs hW => ?_)
                  refine lv_pop S.1 S.2.1 dX7_town_93 rfl ?_
                  refine lv_iinc (v := x1 + (1 : Int32)) (lv' := [(1, .int (x1 + (1 : Int32))), (2, .int v22), (0, .ref (ad 0))]) S.1 S.2.1 dX7_town_94 hl (k := 2) rfl rfl (by decide) rfl (fun ls hl => ?_)
                  refine lv_goto (tgt := 25) S.1 S.2.1 dX7_town_97 (by decide) ?_
                  exact ih _ _ _ _ h _ _ _ (lv_sub hl [2, 0] rfl) hW K
                · replace h := (if_pos c36).symm.trans h
                  refine lv_iconst (v := (1 : Int32)) S.1 S.2.1 dX7_town_85 (by decide) ?_
                  refine lv_goto (tgt := 90) S.1 S.2.1 dX7_town_86 (by decide) ?_
                  obtain ⟨v38, M39, u37, h⟩ := b2_some h
                  refine fl_doneI (fl_runV S hK hN (kX7_takes l hJ (1 : Int32) M35 v38 M39 u37) (cwV 1 S.2.2.2.2 (gV q_315 q_316 q_317 q_291 q_314) rfl rfl rfl (by decide +kernel) ⟨Nat.le_of_ble_eq_true rfl, Nat.le_of_ble_eq_true rfl⟩) (ci := 7) rfl lM_0 sM_0 rfl hl.1 rfl (Nat.le_of_ble_eq_true rfl) dX7_town_90 ⟨Nat.zero_le _, Nat.zero_le _⟩ hW) hA hW.2 (fun H locs hW => ?_)
                  refine lv_pop S.1 S.2.1 dX7_town_93 rfl ?_
                  refine lv_iinc (v := x1 + (1 : Int32)) (lv' := [(1, .int (x1 + (1 : Int32))), (2, .int v22), (0, .ref (ad 0))]) S.1 S.2.1 dX7_town_94 hl (k := 2) rfl rfl (by decide) rfl (fun ls hl => ?_)
                  refine lv_goto (tgt := 25) S.1 S.2.1 dX7_town_97 (by decide) ?_
                  exact ih _ _ _ _ h _ _ _ (lv_sub hl [2, 0] rfl) hW K
            · replace h := (if_neg c20).symm.trans h
              refine lv_iconst (v := (1 : Int32)) S.1 S.2.1 dX7_town_55 (by decide) ?_
              refine lv_goto (tgt := 60) S.1 S.2.1 dX7_town_56 (by decide) ?_
              obtain ⟨v44, M45, u43, h⟩ := b2_some h
              refine fl_doneI (fl_runV S hK hN (kX7_takes l hJ (1 : Int32) Ml v44 M45 u43) (cwV 1 S.2.2.2.2 (gV q_315 q_316 q_317 q_291 q_314) rfl rfl rfl (by decide +kernel) ⟨Nat.le_of_ble_eq_true rfl, Nat.le_of_ble_eq_true rfl⟩) (ci := 7) rfl lM_0 sM_0 rfl hl.1 rfl (Nat.le_of_ble_eq_true rfl) dX7_town_60 ⟨Nat.zero_le _, Nat.zero_le _⟩ hW) hA hW.2 (fun H locs hW => ?_)
              refine lv_istore_n (lv' := [(2, .int v44), (0, .ref (ad 0)), (1, .int x1)]) S.1 S.2.1 dX7_town_63 rfl hl (by decide) rfl (fun ls hl => ?_)
              refine lv_aload_n S.1 S.2.1 dX7_town_64 rfl (lv_at hl 1 rfl) ?_
              obtain ⟨v47, u46, h⟩ := bP_some h
              refine fl_doneI (fl_runV S hK hN (kX7_isWell l hJ M45 v47 u46) (cwV 0 S.2.2.2.2 (gV q_307 q_308 q_309 q_291 q_306) rfl rfl rfl (by decide +kernel) ⟨Nat.le_of_ble_eq_true rfl, Nat.le_of_ble_eq_true rfl⟩) (ci := 7) rfl lM_0 sM_0 rfl hl.1 rfl (Nat.le_of_ble_eq_true rfl) dX7_town_65 ⟨Nat.zero_le _, Nat.zero_le _⟩ hW) hA hW.2 (fun H locs hW => ?_)
              refine lv_if_eq (tgt := 76) S.1 S.2.1 dX7_town_68 (by decide) (fun c48 => ?_) (fun c48 => ?_)
              · replace h := (if_pos c48).symm.trans h
                refine lv_aload_n S.1 S.2.1 dX7_town_76 rfl (lv_at hl 1 rfl) ?_
                refine lv_aload_n S.1 S.2.1 dX7_town_77 rfl (lv_at hl 1 rfl) ?_
                refine fl_get S hK iX7 rfl lM_0 sM_0 5 (by decide) (hq _ q_301) (fun _ h9 => h9) (fvs_I rfl) hW dX7_town_78 ?_
                refine lv_iconst (v := (3 : Int32)) S.1 S.2.1 dX7_town_81 (by decide) ?_
                refine lv_icmp_ne (tgt := 89) S.1 S.2.1 dX7_town_82 (by decide) (fun c49 => ?_) (fun c49 => ?_)
                · replace h := (if_neg c49).symm.trans h
                  refine lv_iconst (v := (0 : Int32)) S.1 S.2.1 dX7_town_89 (by decide) ?_
                  obtain ⟨v54, M55, u53, h⟩ := b2_some h
                  refine fl_doneI (fl_runV S hK hN (kX7_takes l hJ (0 : Int32) M45 v54 M55 u53) (cwV 1 S.2.2.2.2 (gV q_315 q_316 q_317 q_291 q_314) rfl rfl rfl (by decide +kernel) ⟨Nat.le_of_ble_eq_true rfl, Nat.le_of_ble_eq_true rfl⟩) (ci := 7) rfl lM_0 sM_0 rfl hl.1 rfl (Nat.le_of_ble_eq_true rfl) dX7_town_90 ⟨Nat.zero_le _, Nat.zero_le _⟩ hW) hA hW.2 (fun H locs hW => ?_)
                  refine lv_pop S.1 S.2.1 dX7_town_93 rfl ?_
                  refine lv_iinc (v := x1 + (1 : Int32)) (lv' := [(1, .int (x1 + (1 : Int32))), (2, .int v44), (0, .ref (ad 0))]) S.1 S.2.1 dX7_town_94 hl (k := 2) rfl rfl (by decide) rfl (fun ls hl => ?_)
                  refine lv_goto (tgt := 25) S.1 S.2.1 dX7_town_97 (by decide) ?_
                  exact ih _ _ _ _ h _ _ _ (lv_sub hl [2, 0] rfl) hW K
                · replace h := (if_pos c49).symm.trans h
                  refine lv_iconst (v := (1 : Int32)) S.1 S.2.1 dX7_town_85 (by decide) ?_
                  refine lv_goto (tgt := 90) S.1 S.2.1 dX7_town_86 (by decide) ?_
                  obtain ⟨v51, M52, u50, h⟩ := b2_some h
                  refine fl_doneI (fl_runV S hK hN (kX7_takes l hJ (1 : Int32) M45 v51 M52 u50) (cwV 1 S.2.2.2.2 (gV q_315 q_316 q_317 q_291 q_314) rfl rfl rfl (by decide +kernel) ⟨Nat.le_of_ble_eq_true rfl, Nat.le_of_ble_eq_true rfl⟩) (ci := 7) rfl lM_0 sM_0 rfl hl.1 rfl (Nat.le_of_ble_eq_true rfl) dX7_town_90 ⟨Nat.zero_le _, Nat.zero_le _⟩ hW) hA hW.2 (fun H locs hW => ?_)
                  refine lv_pop S.1 S.2.1 dX7_town_93 rfl ?_
                  refine lv_iinc (v := x1 + (1 : Int32)) (lv' := [(1, .int (x1 + (1 : Int32))), (2, .int v44), (0, .ref (ad 0))]) S.1 S.2.1 dX7_town_94 hl (k := 2) rfl rfl (by decide) rfl (fun ls hl => ?_)
                  refine lv_goto (tgt := 25) S.1 S.2.1 dX7_town_97 (by decide) ?_
                  exact ih _ _ _ _ h _ _ _ (lv_sub hl [2, 0] rfl) hW K
              · replace h := (if_neg c48).symm.trans h
                refine lv_aload_n S.1 S.2.1 dX7_town_71 rfl (lv_at hl 1 rfl) ?_
                refine lv_iload_n S.1 S.2.1 dX7_town_72 rfl (lv_at hl 0 rfl) ?_
                obtain ⟨M57, u56, h⟩ := bP_some h
                refine fl_doneV (fl_runV S hK hN (kX7_readsItem l hJ v44 M45 M57 u56) (cwV 1 S.2.2.2.2 (gV q_340 q_341 q_342 q_291 q_339) rfl rfl rfl (by decide +kernel) ⟨Nat.le_of_ble_eq_true rfl, Nat.le_of_ble_eq_true rfl⟩) (ci := 7) rfl lM_0 sM_0 rfl hl.1 rfl (Nat.le_of_ble_eq_true rfl) dX7_town_73 ⟨Nat.zero_le _, Nat.zero_le _⟩ hW) hA hW.2 (fun H locs hW => ?_)
                refine lv_aload_n S.1 S.2.1 dX7_town_76 rfl (lv_at hl 1 rfl) ?_
                refine lv_aload_n S.1 S.2.1 dX7_town_77 rfl (lv_at hl 1 rfl) ?_
                refine fl_get S hK iX7 rfl lM_0 sM_0 5 (by decide) (hq _ q_301) (fun _ h9 => h9) (fvs_I rfl) hW dX7_town_78 ?_
                refine lv_iconst (v := (3 : Int32)) S.1 S.2.1 dX7_town_81 (by decide) ?_
                refine lv_icmp_ne (tgt := 89) S.1 S.2.1 dX7_town_82 (by decide) (fun c58 => ?_) (fun c58 => ?_)
                · replace h := (if_neg c58).symm.trans h
                  refine lv_iconst (v := (0 : Int32)) S.1 S.2.1 dX7_town_89 (by decide) ?_
                  obtain ⟨v63, M64, u62, h⟩ := b2_some h
                  refine fl_doneI (fl_runV S hK hN (kX7_takes l hJ (0 : Int32) M57 v63 M64 u62) (cwV 1 S.2.2.2.2 (gV q_315 q_316 q_317 q_291 q_314) rfl rfl rfl (by decide +kernel) ⟨Nat.le_of_ble_eq_true rfl, Nat.le_of_ble_eq_true rfl⟩) (ci := 7) rfl lM_0 sM_0 rfl hl.1 rfl (Nat.le_of_ble_eq_true rfl) dX7_town_90 ⟨Nat.zero_le _, Nat.zero_le _⟩ hW) hA hW.2 (fun H locs hW => ?_)
                  refine lv_pop S.1 S.2.1 dX7_town_93 rfl ?_
                  refine lv_iinc (v := x1 + (1 : Int32)) (lv' := [(1, .int (x1 + (1 : Int32))), (2, .int v44), (0, .ref (ad 0))]) S.1 S.2.1 dX7_town_94 hl (k := 2) rfl rfl (by decide) rfl (fun ls hl => ?_)
                  refine lv_goto (tgt := 25) S.1 S.2.1 dX7_town_97 (by decide) ?_
                  exact ih _ _ _ _ h _ _ _ (lv_sub hl [2, 0] rfl) hW K
                · replace h := (if_pos c58).symm.trans h
                  refine lv_iconst (v := (1 : Int32)) S.1 S.2.1 dX7_town_85 (by decide) ?_
                  refine lv_goto (tgt := 90) S.1 S.2.1 dX7_town_86 (by decide) ?_
                  obtain ⟨v60, M61, u59, h⟩ := b2_some h
                  refine fl_doneI (fl_runV S hK hN (kX7_takes l hJ (1 : Int32) M57 v60 M61 u59) (cwV 1 S.2.2.2.2 (gV q_315 q_316 q_317 q_291 q_314) rfl rfl rfl (by decide +kernel) ⟨Nat.le_of_ble_eq_true rfl, Nat.le_of_ble_eq_true rfl⟩) (ci := 7) rfl lM_0 sM_0 rfl hl.1 rfl (Nat.le_of_ble_eq_true rfl) dX7_town_90 ⟨Nat.zero_le _, Nat.zero_le _⟩ hW) hA hW.2 (fun H locs hW => ?_)
                  refine lv_pop S.1 S.2.1 dX7_town_93 rfl ?_
                  refine lv_iinc (v := x1 + (1 : Int32)) (lv' := [(1, .int (x1 + (1 : Int32))), (2, .int v44), (0, .ref (ad 0))]) S.1 S.2.1 dX7_town_94 hl (k := 2) rfl rfl (by decide) rfl (fun ls hl => ?_)
                  refine lv_goto (tgt := 25) S.1 S.2.1 dX7_town_97 (by decide) ?_
                  exact ih _ _ _ _ h _ _ _ (lv_sub hl [2, 0] rfl) hW K
  obtain ⟨w11, M12, u92, h⟩ := b2_some h
  refine L25 50000 _ _ _ _ u92 _ _ _ (lv_sub hl [1, 0] rfl) hW (fun H locs ls hl hW => ?_)
  clear L25
  refine lv_aload_n S.1 S.2.1 dX7_town_100 rfl (lv_at hl 0 rfl) ?_
  obtain ⟨v88, u87, h⟩ := bP_some h
  refine fl_doneI (fl_runV S hK hN (kX7_isWell l hJ M12 v88 u87) (cwV 0 S.2.2.2.2 (gV q_307 q_308 q_309 q_291 q_306) rfl rfl rfl (by decide +kernel) ⟨Nat.le_of_ble_eq_true rfl, Nat.le_of_ble_eq_true rfl⟩) (ci := 7) rfl lM_0 sM_0 rfl hl.1 rfl (Nat.le_of_ble_eq_true rfl) dX7_town_101 ⟨Nat.zero_le _, Nat.zero_le _⟩ hW) hA hW.2 (fun H locs hW => ?_)
  refine lv_if_ne (tgt := 115) S.1 S.2.1 dX7_town_104 (by decide) (fun c89 => ?_) (fun c89 => ?_)
  · replace h := (if_neg c89).symm.trans h
    refine lv_aload_n S.1 S.2.1 dX7_town_115 rfl (lv_at hl 0 rfl) ?_
    obtain ⟨M91, u90, h⟩ := bP_some h
    refine fl_doneV (fl_runV S hK hN (kX7_settles l hJ M12 M91 u90) (cwV 0 S.2.2.2.2 (gV q_344 q_345 q_346 q_291 q_343) rfl rfl rfl (by decide +kernel) ⟨Nat.le_of_ble_eq_true rfl, Nat.le_of_ble_eq_true rfl⟩) (ci := 7) rfl lM_0 sM_0 rfl hl.1 rfl (Nat.le_of_ble_eq_true rfl) dX7_town_116 ⟨Nat.zero_le _, Nat.zero_le _⟩ hW) hA hW.2 (fun H locs hW => ?_)
    refine lv_iload_n S.1 S.2.1 dX7_town_119 rfl (lv_at hl 1 rfl) ?_
    obtain ⟨rfl, rfl⟩ := s2 h
    exact fl_iret S.1 S.2.1 hr hlocks hW dX7_town_120
  · replace h := (if_pos c89).symm.trans h
    refine lv_bipush (v := (-10 : Int32)) S.1 S.2.1 dX7_town_107 (by decide) ?_
    refine lv_aload_n S.1 S.2.1 dX7_town_109 rfl (lv_at hl 0 rfl) ?_
    refine fl_get S hK iX7 rfl lM_0 sM_0 8 (by decide) (hq _ q_305) (fun _ h9 => h9) (fvs_I rfl) hW dX7_town_110 ?_
    refine lv_isub S.1 S.2.1 dX7_town_113 ?_
    obtain ⟨rfl, rfl⟩ := s2 h
    exact fl_iret S.1 S.2.1 hr hlocks hW dX7_town_114

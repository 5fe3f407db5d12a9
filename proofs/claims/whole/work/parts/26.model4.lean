def fX7_keep_L18 (p1 : Int32) : Nat → Int32 → Mm → Option (Int32 × Mm)
  | 0, _, _ => none
  | n + 1, x2, Ml => if (21 : Int32) ≤ x2 then (some (x2, Ml)) else (ix x2 21 (ix (((21 : Int32) * p1) + x2) 42 (lt (wI Ml 7 (((21 : Int32) * p1) + x2).toNatClampNeg (Ml.1 6 (x2).toNatClampNeg)) (fun (M11 : Mm) => fX7_keep_L18 p1 n (x2 + (1 : Int32)) M11))))
def fX7_keep (p1 : Int32) (M : Mm) : Option (Int32 × Mm) :=
  lt (wI M 0 0 (0 : Int32)) (fun (M1 : Mm) => bP (fX7_in p1 (0 : Int32) (1 : Int32)) (fun (v4 : Int32) => if v4 = 0 then (some ((-1 : Int32), M1)) else (b2 (fX7_keep_L18 p1 50000 (0 : Int32) M1) (fun (w6 : Int32) (M7 : Mm) => ix p1 2 (lt (wI M7 8 (p1).toNatClampNeg (1 : Int32)) (fun (M14 : Mm) => some (M14.1 6 ((0 : Int32)).toNatClampNeg, M14)))))))
set_option maxHeartbeats 4000000 in
set_option maxRecDepth 100000 in
theorem kX7_keep (l : Launch) {D : va_G} {cy : Nat → ClassId} {ad : Nat → Nat} (hJ : Inj ad 15)  (p1 : Int32) (M : Mm) (r : Int32) (M' : Mm) (h : fX7_keep p1 M = some (r, M')) : Met l yX7_keep vX7_keep ({ frames := 1, cells := 0, slots := 0, locals := 22 } : Room) (PcF [.ref (ad 0), .int p1] D cy ad kdV shM rfM 15 M) (QcI r D cy ad kdV shM rfM 15 M') 0 0 (AV ad 15) := by
  refine Met.ofW (cc := cX7_keep) (maxL := 3) (ret := (some .int)) (by decide) rfl ?_
  intro p e s m args below meth c s₁ B hml hv
  obtain ⟨rfl, hP, hK, hN⟩ := hv
  have hr := B.returns
  have hlocks := B.notSynchronized
  have S : CallFix p m c cX7_keep 3 s ([.ref (ad 0), .int p1] : List Value).toArray vX7_keep RX7 := ⟨B.exec, B.bytes, hml, findClass_of_methodNamed B.named, atoms_spec (ws := vX7_keep) B.pre⟩
  have hq : ∀ w ∈ GW, w.before ([.ref (ad 0), .int p1] : List Value).toArray s = true := fun w h => S.2.2.2.2 w (List.mem_cons_of_mem _ h)
  have hA : ∀ k, k < 15 → AV ad 15 (ad k) := fun k hk => ⟨k, hk, rfl⟩
  have hW : WSt D cy ad kdV shM rfM 15 (AV ad 15) M s.heap s.heap [] := ⟨hP, va_S.rf⟩
  clear hP
  have iX7 : ∀ w ∈ wsX70, w ∈ vX7_keep := fun w h => List.mem_cons_of_mem _ (inX7 w h)
  have hl := lv_entry ([.ref (ad 0), .int p1]) (n := 3) (Nat.le_of_ble_eq_true rfl)
  rw [lg_entry_eq]
  generalize (lg_sl ([.ref (ad 0), .int p1]) ++ List.replicate (3 - (lg_sl ([.ref (ad 0), .int p1])).length) Slot.unset).toArray = ls at hl ⊢
  have hl : lv_has ls 3 [(0, .ref (ad 0)), (1, .int p1)] := hl
  rw [fX7_keep] at h
  refine lv_aload_n S.1 S.2.1 dX7_keep_0 rfl (lv_at hl 0 rfl) ?_
  refine lv_iconst (v := (0 : Int32)) S.1 S.2.1 dX7_keep_1 (by decide) ?_
  refine fl_put S hK hJ hA tyX7 tyX7_ok nmX7 iX7 rfl lM_0 sM_0 0 (by decide) (hq _ q_287) (fun _ h9 => h9) rfl (ty := .int) rfl rfl rfl (wI M 0 0 (0 : Int32)) (by decide) (fvs_setI _ _ _ _ _ _ _ rfl) (fun j _ hj => cof_wI_ne hj) hW dX7_keep_2 (fun H locs hW => ?_)
  obtain ⟨M1, e2, h⟩ := lt_some h
  rw [e2] at hW
  clear e2
  refine lv_iload_n S.1 S.2.1 dX7_keep_5 rfl (lv_at hl 1 rfl) ?_
  refine lv_iconst (v := (0 : Int32)) S.1 S.2.1 dX7_keep_6 (by decide) ?_
  refine lv_iconst (v := (1 : Int32)) S.1 S.2.1 dX7_keep_7 (by decide) ?_
  obtain ⟨v4, u3, h⟩ := bP_some h
  refine fl_doneP (fl_runS S (kX7_in l p1 (0 : Int32) (1 : Int32) v4 u3) (va_cwS 3 S.2.2.2.2 (gS q_289 q_290 q_291 q_288) rfl rfl rfl (by decide +kernel) ⟨Nat.le_of_ble_eq_true rfl, Nat.le_of_ble_eq_true rfl⟩) rfl hl.1 rfl (Nat.le_of_ble_eq_true rfl) dX7_keep_8 ⟨Nat.zero_le _, Nat.zero_le _⟩) hW (fun H locs hW => ?_)
  refine lv_if_ne (tgt := 16) S.1 S.2.1 dX7_keep_11 (by decide) (fun c5 => ?_) (fun c5 => ?_)
  · replace h := (if_neg c5).symm.trans h
    refine lv_iconst (v := (0 : Int32)) S.1 S.2.1 dX7_keep_16 (by decide) ?_
    refine lv_istore_n (lv' := [(2, .int (0 : Int32)), (0, .ref (ad 0)), (1, .int p1)]) S.1 S.2.1 dX7_keep_17 rfl hl (by decide) rfl (fun ls hl => ?_)
    have L18 : ∀ (n : Nat) (x2 : Int32) (Ml : Mm) (w6 : Int32) (M7 : Mm), fX7_keep_L18 p1 n x2 Ml = some (w6, M7) → ∀ (H : Heap) (locs : List Loc) (ls : Array Slot), lv_has ls 3 [(0, .ref (ad 0)), (1, .int p1), (2, .int x2)] → WSt D cy ad kdV shM rfM 15 (AV ad 15) Ml s.heap H locs → (∀ (H : Heap) (locs : List Loc) (ls : Array Slot), lv_has ls 3 [(0, .ref (ad 0)), (1, .int p1), (2, .int w6)] → WSt D cy ad kdV shM rfM 15 (AV ad 15) M7 s.heap H locs → W p l e (headSpec vX7_keep ({ frames := 1, cells := 0, slots := 0, locals := 22 } : Room)).room s m ([.ref (ad 0), .int p1] : List Value).toArray below meth c H locs 0 0 (MQ below (QcI r D cy ad kdV shM rfM 15 M') ([.ref (ad 0), .int p1] : List Value).toArray s 0 0 (AV ad 15)) (F0 m 47 ls [])) → W p l e (headSpec vX7_keep ({ frames := 1, cells := 0, slots := 0, locals := 22 } : Room)).room s m ([.ref (ad 0), .int p1] : List Value).toArray below meth c H locs 0 0 (MQ below (QcI r D cy ad kdV shM rfM 15 M') ([.ref (ad 0), .int p1] : List Value).toArray s 0 0 (AV ad 15)) (F0 m 18 ls []) := by
      intro n
      induction n with
      | zero => intro x2 Ml w6 M7 h; cases h
      | succ n ih =>
        intro x2 Ml w6 M7 h H locs ls hl hW K
        rw [fX7_keep_L18] at h
        refine lv_iload_n S.1 S.2.1 dX7_keep_18 rfl (lv_at hl 2 rfl) ?_
        refine lv_bipush (v := (21 : Int32)) S.1 S.2.1 dX7_keep_19 (by decide) ?_
        refine lv_icmp_ge (tgt := 47) S.1 S.2.1 dX7_keep_21 (by decide) (fun c8 => ?_) (fun c8 => ?_)
        · replace h := (if_pos c8).symm.trans h
          obtain ⟨rfl, rfl⟩ := s2 h
          exact K _ _ _ hl hW
        · replace h := (if_neg c8).symm.trans h
          refine lv_aload_n S.1 S.2.1 dX7_keep_24 rfl (lv_at hl 0 rfl) ?_
          refine fl_get S hK iX7 rfl lM_0 sM_0 15 (by decide) (hq _ q_440) (fun _ h9 => h9) (fvs_R rfl rfl) hW dX7_keep_25 ?_
          refine lv_bipush (v := (21 : Int32)) S.1 S.2.1 dX7_keep_28 (by decide) ?_
          refine lv_iload_n S.1 S.2.1 dX7_keep_30 rfl (lv_at hl 1 rfl) ?_
          refine lv_imul S.1 S.2.1 dX7_keep_31 ?_
          refine lv_iload_n S.1 S.2.1 dX7_keep_32 rfl (lv_at hl 2 rfl) ?_
          refine lv_iadd S.1 S.2.1 dX7_keep_33 ?_
          refine lv_aload_n S.1 S.2.1 dX7_keep_34 rfl (lv_at hl 0 rfl) ?_
          refine fl_get S hK iX7 rfl lM_0 sM_0 14 (by decide) (hq _ q_327) (fun _ h9 => h9) (fvs_R rfl rfl) hW dX7_keep_35 ?_
          refine lv_iload_n S.1 S.2.1 dX7_keep_38 rfl (lv_at hl 2 rfl) ?_
          obtain ⟨g9, h⟩ := ix_some h
          refine fl_iald S hK lM_6 sM_6 g9 hW dX7_keep_39 ?_
          obtain ⟨g10, h⟩ := ix_some h
          refine fl_iast S hK hJ hA lM_7 sM_7 g10 hW dX7_keep_40 (fun H locs hW => ?_)
          obtain ⟨M11, e12, h⟩ := lt_some h
          rw [e12] at hW
          clear e12
          refine lv_iinc (v := x2 + (1 : Int32)) (lv' := [(2, .int (x2 + (1 : Int32))), (0, .ref (ad 0)), (1, .int p1)]) S.1 S.2.1 dX7_keep_41 hl (k := 2) rfl rfl (by decide) rfl (fun ls hl => ?_)
          refine lv_goto (tgt := 18) S.1 S.2.1 dX7_keep_44 (by decide) ?_
          exact ih _ _ _ _ h _ _ _ (lv_sub hl [1, 2, 0] rfl) hW K
    obtain ⟨w6, M7, u16, h⟩ := b2_some h
    refine L18 50000 _ _ _ _ u16 _ _ _ (lv_sub hl [1, 2, 0] rfl) hW (fun H locs ls hl hW => ?_)
    clear L18
    refine lv_aload_n S.1 S.2.1 dX7_keep_47 rfl (lv_at hl 0 rfl) ?_
    refine fl_get S hK iX7 rfl lM_0 sM_0 16 (by decide) (hq _ q_330) (fun _ h9 => h9) (fvs_R rfl rfl) hW dX7_keep_48 ?_
    refine lv_iload_n S.1 S.2.1 dX7_keep_51 rfl (lv_at hl 1 rfl) ?_
    refine lv_iconst (v := (1 : Int32)) S.1 S.2.1 dX7_keep_52 (by decide) ?_
    obtain ⟨g13, h⟩ := ix_some h
    refine fl_zast S hK hJ hA lM_8 sM_8 g13 (zb_nar (Or.inr rfl)) hW dX7_keep_53 (fun H locs hW => ?_)
    obtain ⟨M14, e15, h⟩ := lt_some h
    rw [e15] at hW
    clear e15
    refine lv_aload_n S.1 S.2.1 dX7_keep_54 rfl (lv_at hl 0 rfl) ?_
    refine fl_get S hK iX7 rfl lM_0 sM_0 14 (by decide) (hq _ q_327) (fun _ h9 => h9) (fvs_R rfl rfl) hW dX7_keep_55 ?_
    refine lv_iconst (v := (0 : Int32)) S.1 S.2.1 dX7_keep_58 (by decide) ?_
    refine fl_iald S hK lM_6 sM_6 (vp_dec (i := (0 : Int32)) (n := 21) (by decide)) hW dX7_keep_59 ?_
    obtain ⟨rfl, rfl⟩ := s2 h
    exact fl_iret S.1 S.2.1 hr hlocks hW dX7_keep_60
  · replace h := (if_pos c5).symm.trans h
    refine lv_iconst (v := (-1 : Int32)) S.1 S.2.1 dX7_keep_14 (by decide) ?_
    obtain ⟨rfl, rfl⟩ := s2 h
    exact fl_iret S.1 S.2.1 hr hlocks hW dX7_keep_15
def fX7_back_L30 (p1 : Int32) : Nat → Int32 → Mm → Option (Int32 × Mm)
  | 0, _, _ => none
  | n + 1, x2, Ml => if (21 : Int32) ≤ x2 then (some (x2, Ml)) else (ix (((21 : Int32) * p1) + x2) 42 (ix x2 21 (lt (wI Ml 6 (x2).toNatClampNeg (Ml.1 7 (((21 : Int32) * p1) + x2).toNatClampNeg)) (fun (M13 : Mm) => fX7_back_L30 p1 n (x2 + (1 : Int32)) M13))))
def fX7_back (p1 : Int32) (M : Mm) : Option (Int32 × Mm) :=
  lt (wI M 0 0 (0 : Int32)) (fun (M1 : Mm) => bP (fX7_in p1 (0 : Int32) (1 : Int32)) (fun (v4 : Int32) => if v4 = 0 then (some ((-1 : Int32), M1)) else (ix p1 2 (if (M1.1 8 (p1).toNatClampNeg) = 0 then (some ((-2 : Int32), M1)) else (b2 (fX7_back_L30 p1 50000 (0 : Int32) M1) (fun (w8 : Int32) (M9 : Mm) => lt (wI M9 0 18 (0 : Int32)) (fun (M15 : Mm) => some (M15.1 6 ((0 : Int32)).toNatClampNeg, M15))))))))
set_option maxHeartbeats 4000000 in
set_option maxRecDepth 100000 in
theorem kX7_back (l : Launch) {D : va_G} {cy : Nat → ClassId} {ad : Nat → Nat} (hJ : Inj ad 15)  (p1 : Int32) (M : Mm) (r : Int32) (M' : Mm) (h : fX7_back p1 M = some (r, M')) : Met l yX7_back vX7_back ({ frames := 1, cells := 0, slots := 0, locals := 22 } : Room) (PcF [.ref (ad 0), .int p1] D cy ad kdV shM rfM 15 M) (QcI r D cy ad kdV shM rfM 15 M') 0 0 (AV ad 15) := by
  refine Met.ofW (cc := cX7_back) (maxL := 3) (ret := (some .int)) (by decide) rfl ?_
  intro p e s m args below meth c s₁ B hml hv
  obtain ⟨rfl, hP, hK, hN⟩ := hv
  have hr := B.returns
  have hlocks := B.notSynchronized
  have S : CallFix p m c cX7_back 3 s ([.ref (ad 0), .int p1] : List Value).toArray vX7_back RX7 := ⟨B.exec, B.bytes, hml, findClass_of_methodNamed B.named, atoms_spec (ws := vX7_back) B.pre⟩
  have hq : ∀ w ∈ GW, w.before ([.ref (ad 0), .int p1] : List Value).toArray s = true := fun w h => S.2.2.2.2 w (List.mem_cons_of_mem _ h)
  have hA : ∀ k, k < 15 → AV ad 15 (ad k) := fun k hk => ⟨k, hk, rfl⟩
  have hW : WSt D cy ad kdV shM rfM 15 (AV ad 15) M s.heap s.heap [] := ⟨hP, va_S.rf⟩
  clear hP
  have iX7 : ∀ w ∈ wsX70, w ∈ vX7_back := fun w h => List.mem_cons_of_mem _ (inX7 w h)
  have hl := lv_entry ([.ref (ad 0), .int p1]) (n := 3) (Nat.le_of_ble_eq_true rfl)
  rw [lg_entry_eq]
  generalize (lg_sl ([.ref (ad 0), .int p1]) ++ List.replicate (3 - (lg_sl ([.ref (ad 0), .int p1])).length) Slot.unset).toArray = ls at hl ⊢
  have hl : lv_has ls 3 [(0, .ref (ad 0)), (1, .int p1)] := hl
  rw [fX7_back] at h
  refine lv_aload_n S.1 S.2.1 dX7_back_0 rfl (lv_at hl 0 rfl) ?_
  refine lv_iconst (v := (0 : Int32)) S.1 S.2.1 dX7_back_1 (by decide) ?_
  refine fl_put S hK hJ hA tyX7 tyX7_ok nmX7 iX7 rfl lM_0 sM_0 0 (by decide) (hq _ q_287) (fun _ h9 => h9) rfl (ty := .int) rfl rfl rfl (wI M 0 0 (0 : Int32)) (by decide) (fvs_setI _ _ _ _ _ _ _ rfl) (fun j _ hj => cof_wI_ne hj) hW dX7_back_2 (fun H locs hW => ?_)
  obtain ⟨M1, e2, h⟩ := lt_some h
  rw [e2] at hW
  clear e2
  refine lv_iload_n S.1 S.2.1 dX7_back_5 rfl (lv_at hl 1 rfl) ?_
  refine lv_iconst (v := (0 : Int32)) S.1 S.2.1 dX7_back_6 (by decide) ?_
  refine lv_iconst (v := (1 : Int32)) S.1 S.2.1 dX7_back_7 (by decide) ?_
  obtain ⟨v4, u3, h⟩ := bP_some h
  refine fl_doneP (fl_runS S (kX7_in l p1 (0 : Int32) (1 : Int32) v4 u3) (va_cwS 3 S.2.2.2.2 (gS q_289 q_290 q_291 q_288) rfl rfl rfl (by decide +kernel) ⟨Nat.le_of_ble_eq_true rfl, Nat.le_of_ble_eq_true rfl⟩) rfl hl.1 rfl (Nat.le_of_ble_eq_true rfl) dX7_back_8 ⟨Nat.zero_le _, Nat.zero_le _⟩) hW (fun H locs hW => ?_)
  refine lv_if_ne (tgt := 16) S.1 S.2.1 dX7_back_11 (by decide) (fun c5 => ?_) (fun c5 => ?_)
  · replace h := (if_neg c5).symm.trans h
    refine lv_aload_n S.1 S.2.1 dX7_back_16 rfl (lv_at hl 0 rfl) ?_
    refine fl_get S hK iX7 rfl lM_0 sM_0 16 (by decide) (hq _ q_330) (fun _ h9 => h9) (fvs_R rfl rfl) hW dX7_back_17 ?_
    refine lv_iload_n S.1 S.2.1 dX7_back_20 rfl (lv_at hl 1 rfl) ?_
    obtain ⟨g6, h⟩ := ix_some h
    refine fl_zald S hK lM_8 sM_8 g6 hW dX7_back_21 ?_
    refine lv_if_ne (tgt := 28) S.1 S.2.1 dX7_back_22 (by decide) (fun c7 => ?_) (fun c7 => ?_)
    · replace h := (if_neg c7).symm.trans h
      refine lv_iconst (v := (0 : Int32)) S.1 S.2.1 dX7_back_28 (by decide) ?_
      refine lv_istore_n (lv' := [(2, .int (0 : Int32)), (0, .ref (ad 0)), (1, .int p1)]) S.1 S.2.1 dX7_back_29 rfl hl (by decide) rfl (fun ls hl => ?_)
      have L30 : ∀ (n : Nat) (x2 : Int32) (Ml : Mm) (w8 : Int32) (M9 : Mm), fX7_back_L30 p1 n x2 Ml = some (w8, M9) → ∀ (H : Heap) (locs : List Loc) (ls : Array Slot), lv_has ls 3 [(0, .ref (ad 0)), (1, .int p1), (2, .int x2)] → WSt D cy ad kdV shM rfM 15 (AV ad 15) Ml s.heap H locs → (∀ (H : Heap) (locs : List Loc) (ls : Array Slot), lv_has ls 3 [(0, .ref (ad 0)), (1, .int p1), (2, .int w8)] → WSt D cy ad kdV shM rfM 15 (AV ad 15) M9 s.heap H locs → W p l e (headSpec vX7_back ({ frames := 1, cells := 0, slots := 0, locals := 22 } : Room)).room s m ([.ref (ad 0), .int p1] : List Value).toArray below meth c H locs 0 0 (MQ below (QcI r D cy ad kdV shM rfM 15 M') ([.ref (ad 0), .int p1] : List Value).toArray s 0 0 (AV ad 15)) (F0 m 59 ls [])) → W p l e (headSpec vX7_back ({ frames := 1, cells := 0, slots := 0, locals := 22 } : Room)).room s m ([.ref (ad 0), .int p1] : List Value).toArray below meth c H locs 0 0 (MQ below (QcI r D cy ad kdV shM rfM 15 M') ([.ref (ad 0), .int p1] : List Value).toArray s 0 0 (AV ad 15)) (F0 m 30 ls []) := by
        intro n
        induction n with
        | zero => intro x2 Ml w8 M9 h; cases h
        | succ n ih =>
          intro x2 Ml w8 M9 h H locs ls hl hW K
          rw [fX7_back_L30] at h
          refine lv_iload_n S.1 S.2.1 dX7_back_30 rfl (lv_at hl 2 rfl) ?_
          refine lv_bipush (v := (21 : Int32)) S.1 S.2.1 dX7_back_31 (by decide) ?_
          refine lv_icmp_ge (tgt := 59) S.1 S.2.1 dX7_back_33 (by decide) (fun c10 => ?_) (fun c10 => ?_)
          · replace h := (if_pos c10).symm.trans h
            obtain ⟨rfl, rfl⟩ := s2 h
            exact K _ _ _ hl hW
          · replace h := (if_neg c10).symm.trans h
            refine lv_aload_n S.1 S.2.1 dX7_back_36 rfl (lv_at hl 0 rfl) ?_
            refine fl_get S hK iX7 rfl lM_0 sM_0 14 (by decide) (hq _ q_327) (fun _ h9 => h9) (fvs_R rfl rfl) hW dX7_back_37 ?_
            refine lv_iload_n S.1 S.2.1 dX7_back_40 rfl (lv_at hl 2 rfl) ?_
            refine lv_aload_n S.1 S.2.1 dX7_back_41 rfl (lv_at hl 0 rfl) ?_
            refine fl_get S hK iX7 rfl lM_0 sM_0 15 (by decide) (hq _ q_440) (fun _ h9 => h9) (fvs_R rfl rfl) hW dX7_back_42 ?_
            refine lv_bipush (v := (21 : Int32)) S.1 S.2.1 dX7_back_45 (by decide) ?_
            refine lv_iload_n S.1 S.2.1 dX7_back_47 rfl (lv_at hl 1 rfl) ?_
            refine lv_imul S.1 S.2.1 dX7_back_48 ?_
            refine lv_iload_n S.1 S.2.1 dX7_back_49 rfl (lv_at hl 2 rfl) ?_
            refine lv_iadd S.1 S.2.1 dX7_back_50 ?_
            obtain ⟨g11, h⟩ := ix_some h
            refine fl_iald S hK lM_7 sM_7 g11 hW dX7_back_51 ?_
            obtain ⟨g12, h⟩ := ix_some h
            refine fl_iast S hK hJ hA lM_6 sM_6 g12 hW dX7_back_52 (fun H locs hW => ?_)
            obtain ⟨M13, e14, h⟩ := lt_some h
            rw [e14] at hW
            clear e14
            refine lv_iinc (v := x2 + (1 : Int32)) (lv' := [(2, .int (x2 + (1 : Int32))), (0, .ref (ad 0)), (1, .int p1)]) S.1 S.2.1 dX7_back_53 hl (k := 2) rfl rfl (by decide) rfl (fun ls hl => ?_)
            refine lv_goto (tgt := 30) S.1 S.2.1 dX7_back_56 (by decide) ?_
            exact ih _ _ _ _ h _ _ _ (lv_sub hl [1, 2, 0] rfl) hW K
      obtain ⟨w8, M9, u17, h⟩ := b2_some h
      refine L30 50000 _ _ _ _ u17 _ _ _ (lv_sub hl [1, 2, 0] rfl) hW (fun H locs ls hl hW => ?_)
      clear L30
      refine lv_aload_n S.1 S.2.1 dX7_back_59 rfl (lv_at hl 0 rfl) ?_
      refine lv_iconst (v := (0 : Int32)) S.1 S.2.1 dX7_back_60 (by decide) ?_
      refine fl_put S hK hJ hA tyX7 tyX7_ok nmX7 iX7 rfl lM_0 sM_0 18 (by decide) (hq _ q_329) (fun _ h9 => h9) rfl (ty := .int) rfl rfl rfl (wI M9 0 18 (0 : Int32)) (by decide) (fvs_setI _ _ _ _ _ _ _ rfl) (fun j _ hj => cof_wI_ne hj) hW dX7_back_61 (fun H locs hW => ?_)
      obtain ⟨M15, e16, h⟩ := lt_some h
      rw [e16] at hW
      clear e16
      refine lv_aload_n S.1 S.2.1 dX7_back_64 rfl (lv_at hl 0 rfl) ?_
      refine fl_get S hK iX7 rfl lM_0 sM_0 14 (by decide) (hq _ q_327) (fun _ h9 => h9) (fvs_R rfl rfl) hW dX7_back_65 ?_
      refine lv_iconst (v := (0 : Int32)) S.1 S.2.1 dX7_back_68 (by decide) ?_
      refine fl_iald S hK lM_6 sM_6 (vp_dec (i := (0 : Int32)) (n := 21) (by decide)) hW dX7_back_69 ?_
      obtain ⟨rfl, rfl⟩ := s2 h
      exact fl_iret S.1 S.2.1 hr hlocks hW dX7_back_70
    · replace h := (if_pos c7).symm.trans h
      refine lv_bipush (v := (-2 : Int32)) S.1 S.2.1 dX7_back_25 (by decide) ?_
      obtain ⟨rfl, rfl⟩ := s2 h
      exact fl_iret S.1 S.2.1 hr hlocks hW dX7_back_27
  · replace h := (if_pos c5).symm.trans h
    refine lv_iconst (v := (-1 : Int32)) S.1 S.2.1 dX7_back_14 (by decide) ?_
    obtain ⟨rfl, rfl⟩ := s2 h
    exact fl_iret S.1 S.2.1 hr hlocks hW dX7_back_15
def fX7_count (p1 : Int32) (M : Mm) : Option (Int32 × Mm) :=
  lt (wI M 0 0 (0 : Int32)) (fun (M1 : Mm) => bP (fX7_in p1 (0 : Int32) (3 : Int32)) (fun (v4 : Int32) => if v4 = 0 then (if p1 = (4 : Int32) then (some (M1.1 0 21, M1)) else (if p1 = (5 : Int32) then (some (M1.1 0 3, M1)) else (some ((-1 : Int32), M1)))) else (ix p1 8 (some (M1.1 2 (p1).toNatClampNeg, M1)))))
set_option maxHeartbeats 4000000 in
set_option maxRecDepth 100000 in
theorem kX7_count (l : Launch) {D : va_G} {cy : Nat → ClassId} {ad : Nat → Nat} (hJ : Inj ad 15)  (p1 : Int32) (M : Mm) (r : Int32) (M' : Mm) (h : fX7_count p1 M = some (r, M')) : Met l yX7_count vX7_count ({ frames := 1, cells := 0, slots := 0, locals := 22 } : Room) (PcF [.ref (ad 0), .int p1] D cy ad kdV shM rfM 15 M) (QcI r D cy ad kdV shM rfM 15 M') 0 0 (AV ad 15) := by
  refine Met.ofW (cc := cX7_count) (maxL := 2) (ret := (some .int)) (by decide) rfl ?_
  intro p e s m args below meth c s₁ B hml hv
  obtain ⟨rfl, hP, hK, hN⟩ := hv
  have hr := B.returns
  have hlocks := B.notSynchronized
  have S : CallFix p m c cX7_count 2 s ([.ref (ad 0), .int p1] : List Value).toArray vX7_count RX7 := ⟨B.exec, B.bytes, hml, findClass_of_methodNamed B.named, atoms_spec (ws := vX7_count) B.pre⟩
  have hq : ∀ w ∈ GW, w.before ([.ref (ad 0), .int p1] : List Value).toArray s = true := fun w h => S.2.2.2.2 w (List.mem_cons_of_mem _ h)
  have hA : ∀ k, k < 15 → AV ad 15 (ad k) := fun k hk => ⟨k, hk, rfl⟩
  have hW : WSt D cy ad kdV shM rfM 15 (AV ad 15) M s.heap s.heap [] := ⟨hP, va_S.rf⟩
  clear hP
  have iX7 : ∀ w ∈ wsX70, w ∈ vX7_count := fun w h => List.mem_cons_of_mem _ (inX7 w h)
  have hl := lv_entry ([.ref (ad 0), .int p1]) (n := 2) (Nat.le_of_ble_eq_true rfl)
  rw [lg_entry_eq]
  generalize (lg_sl ([.ref (ad 0), .int p1]) ++ List.replicate (2 - (lg_sl ([.ref (ad 0), .int p1])).length) Slot.unset).toArray = ls at hl ⊢
  have hl : lv_has ls 2 [(0, .ref (ad 0)), (1, .int p1)] := hl
  rw [fX7_count] at h
  refine lv_aload_n S.1 S.2.1 dX7_count_0 rfl (lv_at hl 0 rfl) ?_
  refine lv_iconst (v := (0 : Int32)) S.1 S.2.1 dX7_count_1 (by decide) ?_
  refine fl_put S hK hJ hA tyX7 tyX7_ok nmX7 iX7 rfl lM_0 sM_0 0 (by decide) (hq _ q_287) (fun _ h9 => h9) rfl (ty := .int) rfl rfl rfl (wI M 0 0 (0 : Int32)) (by decide) (fvs_setI _ _ _ _ _ _ _ rfl) (fun j _ hj => cof_wI_ne hj) hW dX7_count_2 (fun H locs hW => ?_)
  obtain ⟨M1, e2, h⟩ := lt_some h
  rw [e2] at hW
  clear e2
  refine lv_iload_n S.1 S.2.1 dX7_count_5 rfl (lv_at hl 1 rfl) ?_
  refine lv_iconst (v := (0 : Int32)) S.1 S.2.1 dX7_count_6 (by decide) ?_
  refine lv_iconst (v := (3 : Int32)) S.1 S.2.1 dX7_count_7 (by decide) ?_
  obtain ⟨v4, u3, h⟩ := bP_some h
  refine fl_doneP (fl_runS S (kX7_in l p1 (0 : Int32) (3 : Int32) v4 u3) (va_cwS 3 S.2.2.2.2 (gS q_289 q_290 q_291 q_288) rfl rfl rfl (by decide +kernel) ⟨Nat.le_of_ble_eq_true rfl, Nat.le_of_ble_eq_true rfl⟩) rfl hl.1 rfl (Nat.le_of_ble_eq_true rfl) dX7_count_8 ⟨Nat.zero_le _, Nat.zero_le _⟩) hW (fun H locs hW => ?_)
  refine lv_if_eq (tgt := 23) S.1 S.2.1 dX7_count_11 (by decide) (fun c5 => ?_) (fun c5 => ?_)
  · replace h := (if_pos c5).symm.trans h
    refine lv_iload_n S.1 S.2.1 dX7_count_23 rfl (lv_at hl 1 rfl) ?_
    refine lv_iconst (v := (4 : Int32)) S.1 S.2.1 dX7_count_24 (by decide) ?_
    refine lv_icmp_ne (tgt := 35) S.1 S.2.1 dX7_count_25 (by decide) (fun c6 => ?_) (fun c6 => ?_)
    · replace h := (if_neg c6).symm.trans h
      refine lv_iload_n S.1 S.2.1 dX7_count_35 rfl (lv_at hl 1 rfl) ?_
      refine lv_iconst (v := (5 : Int32)) S.1 S.2.1 dX7_count_36 (by decide) ?_
      refine lv_icmp_ne (tgt := 47) S.1 S.2.1 dX7_count_37 (by decide) (fun c7 => ?_) (fun c7 => ?_)
      · replace h := (if_neg c7).symm.trans h
        refine lv_iconst (v := (-1 : Int32)) S.1 S.2.1 dX7_count_47 (by decide) ?_
        obtain ⟨rfl, rfl⟩ := s2 h
        exact fl_iret S.1 S.2.1 hr hlocks hW dX7_count_48
      · replace h := (if_pos c7).symm.trans h
        refine lv_aload_n S.1 S.2.1 dX7_count_40 rfl (lv_at hl 0 rfl) ?_
        refine fl_get S hK iX7 rfl lM_0 sM_0 3 (by decide) (hq _ q_292) (fun _ h9 => h9) (fvs_I rfl) hW dX7_count_41 ?_
        refine lv_goto (tgt := 48) S.1 S.2.1 dX7_count_44 (by decide) ?_
        obtain ⟨rfl, rfl⟩ := s2 h
        exact fl_iret S.1 S.2.1 hr hlocks hW dX7_count_48
    · replace h := (if_pos c6).symm.trans h
      refine lv_aload_n S.1 S.2.1 dX7_count_28 rfl (lv_at hl 0 rfl) ?_
      refine fl_get S hK iX7 rfl lM_0 sM_0 21 (by decide) (hq _ q_328) (fun _ h9 => h9) (fvs_I rfl) hW dX7_count_29 ?_
      refine lv_goto (tgt := 48) S.1 S.2.1 dX7_count_32 (by decide) ?_
      obtain ⟨rfl, rfl⟩ := s2 h
      exact fl_iret S.1 S.2.1 hr hlocks hW dX7_count_48
  · replace h := (if_neg c5).symm.trans h
    refine lv_aload_n S.1 S.2.1 dX7_count_14 rfl (lv_at hl 0 rfl) ?_
    refine fl_get S hK iX7 rfl lM_0 sM_0 10 (by decide) (hq _ q_319) (fun _ h9 => h9) (fvs_R rfl rfl) hW dX7_count_15 ?_
    refine lv_iload_n S.1 S.2.1 dX7_count_18 rfl (lv_at hl 1 rfl) ?_
    obtain ⟨g8, h⟩ := ix_some h
    refine fl_iald S hK lM_2 sM_2 g8 hW dX7_count_19 ?_
    refine lv_goto (tgt := 48) S.1 S.2.1 dX7_count_20 (by decide) ?_
    obtain ⟨rfl, rfl⟩ := s2 h
    exact fl_iret S.1 S.2.1 hr hlocks hW dX7_count_48
def fX7_trace (M : Mm) : Option (Int64 × Mm) :=
  lt (wI M 0 0 (0 : Int32)) (fun (M1 : Mm) => some (M1.2, M1))
set_option maxHeartbeats 4000000 in
set_option maxRecDepth 100000 in
theorem kX7_trace (l : Launch) {D : va_G} {cy : Nat → ClassId} {ad : Nat → Nat} (hJ : Inj ad 15)   (M : Mm) (r : Int64) (M' : Mm) (h : fX7_trace M = some (r, M')) : Met l yX7_trace vX7_trace ({ frames := 0, cells := 0, slots := 0, locals := 0 } : Room) (PcF [.ref (ad 0)] D cy ad kdV shM rfM 15 M) (QcL r D cy ad kdV shM rfM 15 M') 0 0 (AV ad 15) := by
  refine Met.ofW (cc := cX7_trace) (maxL := 1) (ret := (some .long)) (by decide) rfl ?_
  intro p e s m args below meth c s₁ B hml hv
  obtain ⟨rfl, hP, hK, hN⟩ := hv
  have hr := B.returns
  have hlocks := B.notSynchronized
  have S : CallFix p m c cX7_trace 1 s ([.ref (ad 0)] : List Value).toArray vX7_trace RX7 := ⟨B.exec, B.bytes, hml, findClass_of_methodNamed B.named, atoms_spec (ws := vX7_trace) B.pre⟩
  have hq : ∀ w ∈ GW, w.before ([.ref (ad 0)] : List Value).toArray s = true := fun w h => S.2.2.2.2 w (List.mem_cons_of_mem _ h)
  have hA : ∀ k, k < 15 → AV ad 15 (ad k) := fun k hk => ⟨k, hk, rfl⟩
  have hW : WSt D cy ad kdV shM rfM 15 (AV ad 15) M s.heap s.heap [] := ⟨hP, va_S.rf⟩
  clear hP
  have iX7 : ∀ w ∈ wsX70, w ∈ vX7_trace := fun w h => List.mem_cons_of_mem _ (inX7 w h)
  have hl := lv_entry ([.ref (ad 0)]) (n := 1) (Nat.le_of_ble_eq_true rfl)
  rw [lg_entry_eq]
  generalize (lg_sl ([.ref (ad 0)]) ++ List.replicate (1 - (lg_sl ([.ref (ad 0)])).length) Slot.unset).toArray = ls at hl ⊢
  have hl : lv_has ls 1 [(0, .ref (ad 0))] := hl
  rw [fX7_trace] at h
  refine lv_aload_n S.1 S.2.1 dX7_trace_0 rfl (lv_at hl 0 rfl) ?_
  refine lv_iconst (v := (0 : Int32)) S.1 S.2.1 dX7_trace_1 (by decide) ?_
  refine fl_put S hK hJ hA tyX7 tyX7_ok nmX7 iX7 rfl lM_0 sM_0 0 (by decide) (hq _ q_287) (fun _ h9 => h9) rfl (ty := .int) rfl rfl rfl (wI M 0 0 (0 : Int32)) (by decide) (fvs_setI _ _ _ _ _ _ _ rfl) (fun j _ hj => cof_wI_ne hj) hW dX7_trace_2 (fun H locs hW => ?_)
  obtain ⟨M1, e2, h⟩ := lt_some h
  rw [e2] at hW
  clear e2
  refine lv_aload_n S.1 S.2.1 dX7_trace_5 rfl (lv_at hl 0 rfl) ?_
  refine fl_get S hK iX7 rfl lM_0 sM_0 1 (by decide) (hq _ q_434) (fun _ h9 => h9) (fvs_J rfl) hW dX7_trace_6 ?_
  obtain ⟨rfl, rfl⟩ := s2 h
  exact fl_lret S.1 S.2.1 hr hlocks hW dX7_trace_9

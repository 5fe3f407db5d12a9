def fX7_notes_L11  : Nat → Int32 → Mm → Option (Int32 × Mm)
  | 0, _, _ => none
  | n + 1, x1, Ml => if (189 : Int32) ≤ x1 then (some (x1, Ml)) else (ix (x1 + (21 : Int32)) 210 (ix x1 210 (lt (wI Ml 9 (x1).toNatClampNeg (Ml.1 9 (x1 + (21 : Int32)).toNatClampNeg)) (fun (M9 : Mm) => fX7_notes_L11 n (x1 + (1 : Int32)) M9))))
def fX7_notes_L47  : Nat → Int32 → Mm → Option (Int32 × Mm)
  | 0, _, _ => none
  | n + 1, x1, Ml => if (21 : Int32) ≤ x1 then (some (x1, Ml)) else (ix x1 21 (ix (((21 : Int32) * (Ml.1 0 18)) + x1) 210 (lt (wI Ml 9 (((21 : Int32) * (Ml.1 0 18)) + x1).toNatClampNeg (Ml.1 6 (x1).toNatClampNeg)) (fun (M19 : Mm) => fX7_notes_L47 n (x1 + (1 : Int32)) M19))))
def fX7_notes (M : Mm) : Option (Mm) :=
  bP (if (M.1 0 18) = (10 : Int32) then (b2 (fX7_notes_L11 50000 (0 : Int32) M) (fun (w4 : Int32) (M5 : Mm) => lt (wI M5 0 18 (9 : Int32)) (fun (M11 : Mm) => some M11))) else (some M)) (fun (M2 : Mm) => b2 (fX7_notes_L47 50000 (0 : Int32) M2) (fun (w14 : Int32) (M15 : Mm) => lt (wI M15 0 18 ((M15.1 0 18) + (1 : Int32))) (fun (M21 : Mm) => some M21)))
set_option maxHeartbeats 4000000 in
set_option maxRecDepth 100000 in
theorem kX7_notes (l : Launch) {D : va_G} {cy : Nat → ClassId} {ad : Nat → Nat} (hJ : Inj ad 15)   (M : Mm) (M' : Mm) (h : fX7_notes M = some M') : Met l yX7_notes vX7_notes ({ frames := 0, cells := 0, slots := 0, locals := 0 } : Room) (PcF [.ref (ad 0)] D cy ad kdV shM rfM 15 M) (QcV D cy ad kdV shM rfM 15 M') 0 0 (AV ad 15) := by
  refine Met.ofW (cc := cX7_notes) (maxL := 2) (ret := none) (by decide) rfl ?_
  intro p e s m args below meth c s₁ B hml hv
  obtain ⟨rfl, hP, hK, hN⟩ := hv
  have hr := B.returns
  have hlocks := B.notSynchronized
  have S : CallFix p m c cX7_notes 2 s ([.ref (ad 0)] : List Value).toArray vX7_notes RX7 := ⟨B.exec, B.bytes, hml, findClass_of_methodNamed B.named, atoms_spec (ws := vX7_notes) B.pre⟩
  have hq : ∀ w ∈ GW, w.before ([.ref (ad 0)] : List Value).toArray s = true := fun w h => S.2.2.2.2 w (List.mem_cons_of_mem _ h)
  have hA : ∀ k, k < 15 → AV ad 15 (ad k) := fun k hk => ⟨k, hk, rfl⟩
  have hW : WSt D cy ad kdV shM rfM 15 (AV ad 15) M s.heap s.heap [] := ⟨hP, va_S.rf⟩
  clear hP
  have iX7 : ∀ w ∈ wsX70, w ∈ vX7_notes := fun w h => List.mem_cons_of_mem _ (inX7 w h)
  have hl := lv_entry ([.ref (ad 0)]) (n := 2) (Nat.le_of_ble_eq_true rfl)
  rw [lg_entry_eq]
  generalize (lg_sl ([.ref (ad 0)]) ++ List.replicate (2 - (lg_sl ([.ref (ad 0)])).length) Slot.unset).toArray = ls at hl ⊢
  have hl : lv_has ls 2 [(0, .ref (ad 0))] := hl
  rw [fX7_notes] at h
  refine lv_aload_n S.1 S.2.1 dX7_notes_0 rfl (lv_at hl 0 rfl) ?_
  refine fl_get S hK iX7 rfl lM_0 sM_0 18 (by decide) (hq _ q_329) (fun _ h9 => h9) (fvs_I rfl) hW dX7_notes_1 ?_
  refine lv_bipush (v := (10 : Int32)) S.1 S.2.1 dX7_notes_4 (by decide) ?_
  obtain ⟨M2, u24, h⟩ := bP_some h
  have J3 : ∀ (H : Heap) (locs : List Loc) (ls : Array Slot), lv_has ls 2 [(0, .ref (ad 0))] → WSt D cy ad kdV shM rfM 15 (AV ad 15) M2 s.heap H locs → W p l e (headSpec vX7_notes ({ frames := 0, cells := 0, slots := 0, locals := 0 } : Room)).room s m ([.ref (ad 0)] : List Value).toArray below meth c H locs 0 0 (MQ below (QcV D cy ad kdV shM rfM 15 M') ([.ref (ad 0)] : List Value).toArray s 0 0 (AV ad 15)) (F0 m 45 ls []) := by
    intro H locs ls hl hW
    refine lv_iconst (v := (0 : Int32)) S.1 S.2.1 dX7_notes_45 (by decide) ?_
    refine lv_istore_n (lv' := [(1, .int (0 : Int32)), (0, .ref (ad 0))]) S.1 S.2.1 dX7_notes_46 rfl hl (by decide) rfl (fun ls hl => ?_)
    have L47 : ∀ (n : Nat) (x1 : Int32) (Ml : Mm) (w14 : Int32) (M15 : Mm), fX7_notes_L47 n x1 Ml = some (w14, M15) → ∀ (H : Heap) (locs : List Loc) (ls : Array Slot), lv_has ls 2 [(0, .ref (ad 0)), (1, .int x1)] → WSt D cy ad kdV shM rfM 15 (AV ad 15) Ml s.heap H locs → (∀ (H : Heap) (locs : List Loc) (ls : Array Slot), lv_has ls 2 [(0, .ref (ad 0)), (1, .int w14)] → WSt D cy ad kdV shM rfM 15 (AV ad 15) M15 s.heap H locs → W p l e (headSpec vX7_notes ({ frames := 0, cells := 0, slots := 0, locals := 0 } : Room)).room s m ([.ref (ad 0)] : List Value).toArray below meth c H locs 0 0 (MQ below (QcV D cy ad kdV shM rfM 15 M') ([.ref (ad 0)] : List Value).toArray s 0 0 (AV ad 15)) (F0 m 79 ls [])) → W p l e (headSpec vX7_notes ({ frames := 0, cells := 0, slots := 0, locals := 0 } : Room)).room s m ([.ref (ad 0)] : List Value).toArray below meth c H locs 0 0 (MQ below (QcV D cy ad kdV shM rfM 15 M') ([.ref (ad 0)] : List Value).toArray s 0 0 (AV ad 15)) (F0 m 47 ls []) := by
      intro n
      induction n with
      | zero => intro x1 Ml w14 M15 h; cases h
      | succ n ih =>
        intro x1 Ml w14 M15 h H locs ls hl hW K
        rw [fX7_notes_L47] at h
        refine lv_iload_n S.1 S.2.1 dX7_notes_47 rfl (lv_at hl 1 rfl) ?_
        refine lv_bipush (v := (21 : Int32)) S.1 S.2.1 dX7_notes_48 (by decide) ?_
        refine lv_icmp_ge (tgt := 79) S.1 S.2.1 dX7_notes_50 (by decide) (fun c16 => ?_) (fun c16 => ?_)
        · replace h := (if_pos c16).symm.trans h
          obtain ⟨rfl, rfl⟩ := s2 h
          exact K _ _ _ hl hW
        · replace h := (if_neg c16).symm.trans h
          refine lv_aload_n S.1 S.2.1 dX7_notes_53 rfl (lv_at hl 0 rfl) ?_
          refine fl_get S hK iX7 rfl lM_0 sM_0 17 (by decide) (hq _ q_416) (fun _ h9 => h9) (fvs_R rfl rfl) hW dX7_notes_54 ?_
          refine lv_bipush (v := (21 : Int32)) S.1 S.2.1 dX7_notes_57 (by decide) ?_
          refine lv_aload_n S.1 S.2.1 dX7_notes_59 rfl (lv_at hl 0 rfl) ?_
          refine fl_get S hK iX7 rfl lM_0 sM_0 18 (by decide) (hq _ q_329) (fun _ h9 => h9) (fvs_I rfl) hW dX7_notes_60 ?_
          refine lv_imul S.1 S.2.1 dX7_notes_63 ?_
          refine lv_iload_n S.1 S.2.1 dX7_notes_64 rfl (lv_at hl 1 rfl) ?_
          refine lv_iadd S.1 S.2.1 dX7_notes_65 ?_
          refine lv_aload_n S.1 S.2.1 dX7_notes_66 rfl (lv_at hl 0 rfl) ?_
          refine fl_get S hK iX7 rfl lM_0 sM_0 14 (by decide) (hq _ q_327) (fun _ h9 => h9) (fvs_R rfl rfl) hW dX7_notes_67 ?_
          refine lv_iload_n S.1 S.2.1 dX7_notes_70 rfl (lv_at hl 1 rfl) ?_
          obtain ⟨g17, h⟩ := ix_some h
          refine fl_iald S hK lM_6 sM_6 g17 hW dX7_notes_71 ?_
          obtain ⟨g18, h⟩ := ix_some h
          refine fl_iast S hK hJ hA lM_9 sM_9 g18 hW dX7_notes_72 (fun H locs hW => ?_)
          obtain ⟨M19, e20, h⟩ := lt_some h
          rw [e20] at hW
          clear e20
          refine lv_iinc (v := x1 + (1 : Int32)) (lv' := [(1, .int (x1 + (1 : Int32))), (0, .ref (ad 0))]) S.1 S.2.1 dX7_notes_73 hl (k := 1) rfl rfl (by decide) rfl (fun ls hl => ?_)
          refine lv_goto (tgt := 47) S.1 S.2.1 dX7_notes_76 (by decide) ?_
          exact ih _ _ _ _ h _ _ _ (lv_sub hl [1, 0] rfl) hW K
    obtain ⟨w14, M15, u23, h⟩ := b2_some h
    refine L47 50000 _ _ _ _ u23 _ _ _ (lv_sub hl [1, 0] rfl) hW (fun H locs ls hl hW => ?_)
    clear L47
    refine lv_aload_n S.1 S.2.1 dX7_notes_79 rfl (lv_at hl 0 rfl) ?_
    refine lv_dup S.1 S.2.1 dX7_notes_80 rfl ?_
    refine fl_get S hK iX7 rfl lM_0 sM_0 18 (by decide) (hq _ q_329) (fun _ h9 => h9) (fvs_I rfl) hW dX7_notes_81 ?_
    refine lv_iconst (v := (1 : Int32)) S.1 S.2.1 dX7_notes_84 (by decide) ?_
    refine lv_iadd S.1 S.2.1 dX7_notes_85 ?_
    refine fl_put S hK hJ hA tyX7 tyX7_ok nmX7 iX7 rfl lM_0 sM_0 18 (by decide) (hq _ q_329) (fun _ h9 => h9) rfl (ty := .int) rfl rfl rfl (wI M15 0 18 ((M15.1 0 18) + (1 : Int32))) (by decide) (fvs_setI _ _ _ _ _ _ _ rfl) (fun j _ hj => cof_wI_ne hj) hW dX7_notes_86 (fun H locs hW => ?_)
    obtain ⟨M21, e22, h⟩ := lt_some h
    rw [e22] at hW
    clear e22
    obtain rfl := s1 h
    exact fl_vret S.1 S.2.1 hr hlocks hW dX7_notes_89
  clear h
  have h := u24
  clear u24
  refine lv_icmp_ne (tgt := 45) S.1 S.2.1 dX7_notes_6 (by decide) (fun c1 => ?_) (fun c1 => ?_)
  · replace h := (if_neg c1).symm.trans h
    obtain rfl := s1 h
    exact J3 _ _ _ hl hW
  · replace h := (if_pos c1).symm.trans h
    refine lv_iconst (v := (0 : Int32)) S.1 S.2.1 dX7_notes_9 (by decide) ?_
    refine lv_istore_n (lv' := [(1, .int (0 : Int32)), (0, .ref (ad 0))]) S.1 S.2.1 dX7_notes_10 rfl hl (by decide) rfl (fun ls hl => ?_)
    have L11 : ∀ (n : Nat) (x1 : Int32) (Ml : Mm) (w4 : Int32) (M5 : Mm), fX7_notes_L11 n x1 Ml = some (w4, M5) → ∀ (H : Heap) (locs : List Loc) (ls : Array Slot), lv_has ls 2 [(0, .ref (ad 0)), (1, .int x1)] → WSt D cy ad kdV shM rfM 15 (AV ad 15) Ml s.heap H locs → (∀ (H : Heap) (locs : List Loc) (ls : Array Slot), lv_has ls 2 [(0, .ref (ad 0)), (1, .int w4)] → WSt D cy ad kdV shM rfM 15 (AV ad 15) M5 s.heap H locs → W p l e (headSpec vX7_notes ({ frames := 0, cells := 0, slots := 0, locals := 0 } : Room)).room s m ([.ref (ad 0)] : List Value).toArray below meth c H locs 0 0 (MQ below (QcV D cy ad kdV shM rfM 15 M') ([.ref (ad 0)] : List Value).toArray s 0 0 (AV ad 15)) (F0 m 39 ls [])) → W p l e (headSpec vX7_notes ({ frames := 0, cells := 0, slots := 0, locals := 0 } : Room)).room s m ([.ref (ad 0)] : List Value).toArray below meth c H locs 0 0 (MQ below (QcV D cy ad kdV shM rfM 15 M') ([.ref (ad 0)] : List Value).toArray s 0 0 (AV ad 15)) (F0 m 11 ls []) := by
      intro n
      induction n with
      | zero => intro x1 Ml w4 M5 h; cases h
      | succ n ih =>
        intro x1 Ml w4 M5 h H locs ls hl hW K
        rw [fX7_notes_L11] at h
        refine lv_iload_n S.1 S.2.1 dX7_notes_11 rfl (lv_at hl 1 rfl) ?_
        refine lv_sipush (v := (189 : Int32)) S.1 S.2.1 dX7_notes_12 (by decide) ?_
        refine lv_icmp_ge (tgt := 39) S.1 S.2.1 dX7_notes_15 (by decide) (fun c6 => ?_) (fun c6 => ?_)
        · replace h := (if_pos c6).symm.trans h
          obtain ⟨rfl, rfl⟩ := s2 h
          exact K _ _ _ hl hW
        · replace h := (if_neg c6).symm.trans h
          refine lv_aload_n S.1 S.2.1 dX7_notes_18 rfl (lv_at hl 0 rfl) ?_
          refine fl_get S hK iX7 rfl lM_0 sM_0 17 (by decide) (hq _ q_416) (fun _ h9 => h9) (fvs_R rfl rfl) hW dX7_notes_19 ?_
          refine lv_iload_n S.1 S.2.1 dX7_notes_22 rfl (lv_at hl 1 rfl) ?_
          refine lv_aload_n S.1 S.2.1 dX7_notes_23 rfl (lv_at hl 0 rfl) ?_
          refine fl_get S hK iX7 rfl lM_0 sM_0 17 (by decide) (hq _ q_416) (fun _ h9 => h9) (fvs_R rfl rfl) hW dX7_notes_24 ?_
          refine lv_iload_n S.1 S.2.1 dX7_notes_27 rfl (lv_at hl 1 rfl) ?_
          refine lv_bipush (v := (21 : Int32)) S.1 S.2.1 dX7_notes_28 (by decide) ?_
          refine lv_iadd S.1 S.2.1 dX7_notes_30 ?_
          obtain ⟨g7, h⟩ := ix_some h
          refine fl_iald S hK lM_9 sM_9 g7 hW dX7_notes_31 ?_
          obtain ⟨g8, h⟩ := ix_some h
          refine fl_iast S hK hJ hA lM_9 sM_9 g8 hW dX7_notes_32 (fun H locs hW => ?_)
          obtain ⟨M9, e10, h⟩ := lt_some h
          rw [e10] at hW
          clear e10
          refine lv_iinc (v := x1 + (1 : Int32)) (lv' := [(1, .int (x1 + (1 : Int32))), (0, .ref (ad 0))]) S.1 S.2.1 dX7_notes_33 hl (k := 1) rfl rfl (by decide) rfl (fun ls hl => ?_)
          refine lv_goto (tgt := 11) S.1 S.2.1 dX7_notes_36 (by decide) ?_
          exact ih _ _ _ _ h _ _ _ (lv_sub hl [1, 0] rfl) hW K
    obtain ⟨w4, M5, u13, h⟩ := b2_some h
    refine L11 50000 _ _ _ _ u13 _ _ _ (lv_sub hl [1, 0] rfl) hW (fun H locs ls hl hW => ?_)
    clear L11
    refine lv_aload_n S.1 S.2.1 dX7_notes_39 rfl (lv_at hl 0 rfl) ?_
    refine lv_bipush (v := (9 : Int32)) S.1 S.2.1 dX7_notes_40 (by decide) ?_
    refine fl_put S hK hJ hA tyX7 tyX7_ok nmX7 iX7 rfl lM_0 sM_0 18 (by decide) (hq _ q_329) (fun _ h9 => h9) rfl (ty := .int) rfl rfl rfl (wI M5 0 18 (9 : Int32)) (by decide) (fvs_setI _ _ _ _ _ _ _ rfl) (fun j _ hj => cof_wI_ne hj) hW dX7_notes_42 (fun H locs hW => ?_)
    obtain ⟨M11, e12, h⟩ := lt_some h
    rw [e12] at hW
    clear e12
    obtain rfl := s1 h
    exact J3 _ _ _ (lv_sub hl [0] rfl) hW
def fX7_bears (p1 : Int32) (p2 : Int32) (M : Mm) : Option (Int32 × Mm) :=
  lt (wI M 0 0 (0 : Int32)) (fun (M1 : Mm) => bP (fX7_isChild p1 M1) (fun (v4 : Int32) => if v4 = 0 then (some ((-1 : Int32), M1)) else (bP (fX7_isRoom p2 M1) (fun (v7 : Int32) => if v7 = 0 then (some ((-1 : Int32), M1)) else (bP (fX7_has (M1.1 6 ((13 : Int32)).toNatClampNeg) p1) (fun (v10 : Int32) => if v10 = 0 then (bP (fX7_notes M1) (fun (M13 : Mm) => bP (fX7_ageOf p2 M13) (fun (v15 : Int32) => lt (wI M13 6 ((13 : Int32)).toNatClampNeg ((M13.1 6 ((13 : Int32)).toNatClampNeg) ||| ((1 : Int32) <<< (p1 &&& 31)))) (fun (M16 : Mm) => bP (if (M16.1 2 ((3 : Int32)).toNatClampNeg) ≤ v15 then (some (0 : Int32)) else (some ((1 : Int32) <<< (p1 &&& 31)))) (fun (j19 : Int32) => lt (wI M16 6 ((14 : Int32)).toNatClampNeg ((M16.1 6 ((14 : Int32)).toNatClampNeg) ||| j19)) (fun (M21 : Mm) => ix ((15 : Int32) + p1) 21 (lt (wI M21 6 ((15 : Int32) + p1).toNatClampNeg v15) (fun (M24 : Mm) => some (v15, M24))))))))) else (some ((-2 : Int32), M1))))))))
set_option maxHeartbeats 4000000 in
set_option maxRecDepth 100000 in
theorem kX7_bears (l : Launch) {D : va_G} {cy : Nat → ClassId} {ad : Nat → Nat} (hJ : Inj ad 15)  (p1 : Int32) (p2 : Int32) (M : Mm) (r : Int32) (M' : Mm) (h : fX7_bears p1 p2 M = some (r, M')) : Met l yX7_bears vX7_bears ({ frames := 3, cells := 0, slots := 0, locals := 66 } : Room) (PcF [.ref (ad 0), .int p1, .int p2] D cy ad kdV shM rfM 15 M) (QcI r D cy ad kdV shM rfM 15 M') 0 0 (AV ad 15) := by
  refine Met.ofW (cc := cX7_bears) (maxL := 4) (ret := (some .int)) (by decide) rfl ?_
  intro p e s m args below meth c s₁ B hml hv
  obtain ⟨rfl, hP, hK, hN⟩ := hv
  have hr := B.returns
  have hlocks := B.notSynchronized
  have S : CallFix p m c cX7_bears 4 s ([.ref (ad 0), .int p1, .int p2] : List Value).toArray vX7_bears RX7 := ⟨B.exec, B.bytes, hml, findClass_of_methodNamed B.named, atoms_spec (ws := vX7_bears) B.pre⟩
  have hq : ∀ w ∈ GW, w.before ([.ref (ad 0), .int p1, .int p2] : List Value).toArray s = true := fun w h => S.2.2.2.2 w (List.mem_cons_of_mem _ h)
  have hA : ∀ k, k < 15 → AV ad 15 (ad k) := fun k hk => ⟨k, hk, rfl⟩
  have hW : WSt D cy ad kdV shM rfM 15 (AV ad 15) M s.heap s.heap [] := ⟨hP, va_S.rf⟩
  clear hP
  have iX7 : ∀ w ∈ wsX70, w ∈ vX7_bears := fun w h => List.mem_cons_of_mem _ (inX7 w h)
  have hl := lv_entry ([.ref (ad 0), .int p1, .int p2]) (n := 4) (Nat.le_of_ble_eq_true rfl)
  rw [lg_entry_eq]
  generalize (lg_sl ([.ref (ad 0), .int p1, .int p2]) ++ List.replicate (4 - (lg_sl ([.ref (ad 0), .int p1, .int p2])).length) Slot.unset).toArray = ls at hl ⊢
  have hl : lv_has ls 4 [(0, .ref (ad 0)), (1, .int p1), (2, .int p2)] := hl
  rw [fX7_bears] at h
  refine lv_aload_n S.1 S.2.1 dX7_bears_0 rfl (lv_at hl 0 rfl) ?_
  refine lv_iconst (v := (0 : Int32)) S.1 S.2.1 dX7_bears_1 (by decide) ?_
  refine fl_put S hK hJ hA tyX7 tyX7_ok nmX7 iX7 rfl lM_0 sM_0 0 (by decide) (hq _ q_287) (fun _ h9 => h9) rfl (ty := .int) rfl rfl rfl (wI M 0 0 (0 : Int32)) (by decide) (fvs_setI _ _ _ _ _ _ _ rfl) (fun j _ hj => cof_wI_ne hj) hW dX7_bears_2 (fun H locs hW => ?_)
  obtain ⟨M1, e2, h⟩ := lt_some h
  rw [e2] at hW
  clear e2
  refine lv_aload_n S.1 S.2.1 dX7_bears_5 rfl (lv_at hl 0 rfl) ?_
  refine lv_iload_n S.1 S.2.1 dX7_bears_6 rfl (lv_at hl 1 rfl) ?_
  obtain ⟨v4, u3, h⟩ := bP_some h
  refine fl_doneI (fl_runV S hK hN (kX7_isChild l hJ p1 M1 v4 u3) (cwV 1 S.2.2.2.2 (gV q_382 q_383 q_384 q_291 q_381) rfl rfl rfl (by decide +kernel) ⟨Nat.le_of_ble_eq_true rfl, Nat.le_of_ble_eq_true rfl⟩) (ci := 7) rfl lM_0 sM_0 rfl hl.1 rfl (Nat.le_of_ble_eq_true rfl) dX7_bears_7 ⟨Nat.zero_le _, Nat.zero_le _⟩ hW) hA hW.2 (fun H locs hW => ?_)
  refine lv_if_eq (tgt := 21) S.1 S.2.1 dX7_bears_10 (by decide) (fun c5 => ?_) (fun c5 => ?_)
  · replace h := (if_pos c5).symm.trans h
    refine lv_iconst (v := (-1 : Int32)) S.1 S.2.1 dX7_bears_21 (by decide) ?_
    obtain ⟨rfl, rfl⟩ := s2 h
    exact fl_iret S.1 S.2.1 hr hlocks hW dX7_bears_22
  · replace h := (if_neg c5).symm.trans h
    refine lv_aload_n S.1 S.2.1 dX7_bears_13 rfl (lv_at hl 0 rfl) ?_
    refine lv_iload_n S.1 S.2.1 dX7_bears_14 rfl (lv_at hl 2 rfl) ?_
    obtain ⟨v7, u6, h⟩ := bP_some h
    refine fl_doneI (fl_runV S hK hN (kX7_isRoom l hJ p2 M1 v7 u6) (cwV 1 S.2.2.2.2 (gV q_374 q_375 q_376 q_291 q_373) rfl rfl rfl (by decide +kernel) ⟨Nat.le_of_ble_eq_true rfl, Nat.le_of_ble_eq_true rfl⟩) (ci := 7) rfl lM_0 sM_0 rfl hl.1 rfl (Nat.le_of_ble_eq_true rfl) dX7_bears_15 ⟨Nat.zero_le _, Nat.zero_le _⟩ hW) hA hW.2 (fun H locs hW => ?_)
    refine lv_if_ne (tgt := 23) S.1 S.2.1 dX7_bears_18 (by decide) (fun c8 => ?_) (fun c8 => ?_)
    · replace h := (if_neg c8).symm.trans h
      refine lv_aload_n S.1 S.2.1 dX7_bears_23 rfl (lv_at hl 0 rfl) ?_
      refine fl_get S hK iX7 rfl lM_0 sM_0 14 (by decide) (hq _ q_327) (fun _ h9 => h9) (fvs_R rfl rfl) hW dX7_bears_24 ?_
      refine lv_bipush (v := (13 : Int32)) S.1 S.2.1 dX7_bears_27 (by decide) ?_
      refine fl_iald S hK lM_6 sM_6 (vp_dec (i := (13 : Int32)) (n := 21) (by decide)) hW dX7_bears_29 ?_
      refine lv_iload_n S.1 S.2.1 dX7_bears_30 rfl (lv_at hl 1 rfl) ?_
      obtain ⟨v10, u9, h⟩ := bP_some h
      refine fl_doneP (fl_runS S (kX7_has l (M1.1 6 ((13 : Int32)).toNatClampNeg) p1 v10 u9) (va_cwS 2 S.2.2.2.2 (gS q_348 q_349 q_291 q_347) rfl rfl rfl (by decide +kernel) ⟨Nat.le_of_ble_eq_true rfl, Nat.le_of_ble_eq_true rfl⟩) rfl hl.1 rfl (Nat.le_of_ble_eq_true rfl) dX7_bears_31 ⟨Nat.zero_le _, Nat.zero_le _⟩) hW (fun H locs hW => ?_)
      refine lv_if_eq (tgt := 40) S.1 S.2.1 dX7_bears_34 (by decide) (fun c11 => ?_) (fun c11 => ?_)
      · replace h := (if_pos c11).symm.trans h
        refine lv_aload_n S.1 S.2.1 dX7_bears_40 rfl (lv_at hl 0 rfl) ?_
        obtain ⟨M13, u12, h⟩ := bP_some h
        refine fl_doneV (fl_runV S hK hN (kX7_notes l hJ M1 M13 u12) (cwV 0 S.2.2.2.2 (gV q_418 q_419 q_420 q_291 q_417) rfl rfl rfl (by decide +kernel) ⟨Nat.le_of_ble_eq_true rfl, Nat.le_of_ble_eq_true rfl⟩) (ci := 7) rfl lM_0 sM_0 rfl hl.1 rfl (Nat.le_of_ble_eq_true rfl) dX7_bears_41 ⟨Nat.zero_le _, Nat.zero_le _⟩ hW) hA hW.2 (fun H locs hW => ?_)
        refine lv_aload_n S.1 S.2.1 dX7_bears_44 rfl (lv_at hl 0 rfl) ?_
        refine lv_iload_n S.1 S.2.1 dX7_bears_45 rfl (lv_at hl 2 rfl) ?_
        obtain ⟨v15, u14, h⟩ := bP_some h
        refine fl_doneI (fl_runV S hK hN (kX7_ageOf l hJ p2 M13 v15 u14) (cwV 1 S.2.2.2.2 (gV q_378 q_379 q_380 q_291 q_377) rfl rfl rfl (by decide +kernel) ⟨Nat.le_of_ble_eq_true rfl, Nat.le_of_ble_eq_true rfl⟩) (ci := 7) rfl lM_0 sM_0 rfl hl.1 rfl (Nat.le_of_ble_eq_true rfl) dX7_bears_46 ⟨Nat.zero_le _, Nat.zero_le _⟩ hW) hA hW.2 (fun H locs hW => ?_)
        refine lv_istore_n (lv' := [(3, .int v15), (0, .ref (ad 0)), (1, .int p1), (2, .int p2)]) S.1 S.2.1 dX7_bears_49 rfl hl (by decide) rfl (fun ls hl => ?_)
        refine lv_aload_n S.1 S.2.1 dX7_bears_50 rfl (lv_at hl 1 rfl) ?_
        refine fl_get S hK iX7 rfl lM_0 sM_0 14 (by decide) (hq _ q_327) (fun _ h9 => h9) (fvs_R rfl rfl) hW dX7_bears_51 ?_
        refine lv_bipush (v := (13 : Int32)) S.1 S.2.1 dX7_bears_54 (by decide) ?_
        refine lv_dup2_11 S.1 S.2.1 dX7_bears_56 rfl rfl ?_
        refine fl_iald S hK lM_6 sM_6 (vp_dec (i := (13 : Int32)) (n := 21) (by decide)) hW dX7_bears_57 ?_
        refine lv_iconst (v := (1 : Int32)) S.1 S.2.1 dX7_bears_58 (by decide) ?_
        refine lv_iload_n S.1 S.2.1 dX7_bears_59 rfl (lv_at hl 2 rfl) ?_
        refine lv_ishl S.1 S.2.1 dX7_bears_60 ?_
        refine lv_ior S.1 S.2.1 dX7_bears_61 ?_
        refine fl_iast S hK hJ hA lM_6 sM_6 (vp_dec (i := (13 : Int32)) (n := 21) (by decide)) hW dX7_bears_62 (fun H locs hW => ?_)
        obtain ⟨M16, e17, h⟩ := lt_some h
        rw [e17] at hW
        clear e17
        refine lv_aload_n S.1 S.2.1 dX7_bears_63 rfl (lv_at hl 1 rfl) ?_
        refine fl_get S hK iX7 rfl lM_0 sM_0 14 (by decide) (hq _ q_327) (fun _ h9 => h9) (fvs_R rfl rfl) hW dX7_bears_64 ?_
        refine lv_bipush (v := (14 : Int32)) S.1 S.2.1 dX7_bears_67 (by decide) ?_
        refine lv_dup2_11 S.1 S.2.1 dX7_bears_69 rfl rfl ?_
        refine fl_iald S hK lM_6 sM_6 (vp_dec (i := (14 : Int32)) (n := 21) (by decide)) hW dX7_bears_70 ?_
        refine lv_iload_n S.1 S.2.1 dX7_bears_71 rfl (lv_at hl 0 rfl) ?_
        refine lv_aload_n S.1 S.2.1 dX7_bears_72 rfl (lv_at hl 1 rfl) ?_
        refine fl_get S hK iX7 rfl lM_0 sM_0 10 (by decide) (hq _ q_319) (fun _ h9 => h9) (fvs_R rfl rfl) hW dX7_bears_73 ?_
        refine lv_iconst (v := (3 : Int32)) S.1 S.2.1 dX7_bears_76 (by decide) ?_
        refine fl_iald S hK lM_2 sM_2 (vp_dec (i := (3 : Int32)) (n := 8) (by decide)) hW dX7_bears_77 ?_
        obtain ⟨j19, u26, h⟩ := bP_some h
        have J20 : ∀ (H : Heap) (locs : List Loc) (ls : Array Slot), lv_has ls 4 [(0, .ref (ad 0)), (1, .int p1), (2, .int p2), (3, .int v15)] → WSt D cy ad kdV shM rfM 15 (AV ad 15) M16 s.heap H locs → W p l e (headSpec vX7_bears ({ frames := 3, cells := 0, slots := 0, locals := 66 } : Room)).room s m ([.ref (ad 0), .int p1, .int p2] : List Value).toArray below meth c H locs 0 0 (MQ below (QcI r D cy ad kdV shM rfM 15 M') ([.ref (ad 0), .int p1, .int p2] : List Value).toArray s 0 0 (AV ad 15)) (F0 m 88 ls [.int j19, .int (M16.1 6 ((14 : Int32)).toNatClampNeg), .int (14 : Int32), .ref (ad 6)]) := by
          intro H locs ls hl hW
          refine lv_ior S.1 S.2.1 dX7_bears_88 ?_
          refine fl_iast S hK hJ hA lM_6 sM_6 (vp_dec (i := (14 : Int32)) (n := 21) (by decide)) hW dX7_bears_89 (fun H locs hW => ?_)
          obtain ⟨M21, e22, h⟩ := lt_some h
          rw [e22] at hW
          clear e22
          refine lv_aload_n S.1 S.2.1 dX7_bears_90 rfl (lv_at hl 0 rfl) ?_
          refine fl_get S hK iX7 rfl lM_0 sM_0 14 (by decide) (hq _ q_327) (fun _ h9 => h9) (fvs_R rfl rfl) hW dX7_bears_91 ?_
          refine lv_bipush (v := (15 : Int32)) S.1 S.2.1 dX7_bears_94 (by decide) ?_
          refine lv_iload_n S.1 S.2.1 dX7_bears_96 rfl (lv_at hl 1 rfl) ?_
          refine lv_iadd S.1 S.2.1 dX7_bears_97 ?_
          refine lv_iload_n S.1 S.2.1 dX7_bears_98 rfl (lv_at hl 3 rfl) ?_
          obtain ⟨g23, h⟩ := ix_some h
          refine fl_iast S hK hJ hA lM_6 sM_6 g23 hW dX7_bears_99 (fun H locs hW => ?_)
          obtain ⟨M24, e25, h⟩ := lt_some h
          rw [e25] at hW
          clear e25
          refine lv_iload_n S.1 S.2.1 dX7_bears_100 rfl (lv_at hl 3 rfl) ?_
          obtain ⟨rfl, rfl⟩ := s2 h
          exact fl_iret S.1 S.2.1 hr hlocks hW dX7_bears_101
        clear h
        have h := u26
        clear u26
        refine lv_icmp_ge (tgt := 87) S.1 S.2.1 dX7_bears_78 (by decide) (fun c18 => ?_) (fun c18 => ?_)
        · replace h := (if_pos c18).symm.trans h
          refine lv_iconst (v := (0 : Int32)) S.1 S.2.1 dX7_bears_87 (by decide) ?_
          obtain rfl := s1 h
          exact J20 _ _ _ (lv_sub hl [1, 2, 3, 0] rfl) hW
        · replace h := (if_neg c18).symm.trans h
          refine lv_iconst (v := (1 : Int32)) S.1 S.2.1 dX7_bears_81 (by decide) ?_
          refine lv_iload_n S.1 S.2.1 dX7_bears_82 rfl (lv_at hl 2 rfl) ?_
          refine lv_ishl S.1 S.2.1 dX7_bears_83 ?_
          refine lv_goto (tgt := 88) S.1 S.2.1 dX7_bears_84 (by decide) ?_
          obtain rfl := s1 h
          exact J20 _ _ _ (lv_sub hl [1, 2, 3, 0] rfl) hW
      · replace h := (if_neg c11).symm.trans h
        refine lv_bipush (v := (-2 : Int32)) S.1 S.2.1 dX7_bears_37 (by decide) ?_
        obtain ⟨rfl, rfl⟩ := s2 h
        exact fl_iret S.1 S.2.1 hr hlocks hW dX7_bears_39
    · replace h := (if_pos c8).symm.trans h
      refine lv_iconst (v := (-1 : Int32)) S.1 S.2.1 dX7_bears_21 (by decide) ?_
      obtain ⟨rfl, rfl⟩ := s2 h
      exact fl_iret S.1 S.2.1 hr hlocks hW dX7_bears_22
def fX7_year_L35  : Nat → Int32 → Mm → Option (Int32 × Mm)
  | 0, _, _ => none
  | n + 1, x1, Ml => if (Ml.1 2 ((0 : Int32)).toNatClampNeg) ≤ x1 then (some (x1, Ml)) else (ix ((1 : Int32) + x1) 21 (ix ((1 : Int32) + x1) 21 (lt (wI Ml 6 ((1 : Int32) + x1).toNatClampNeg ((Ml.1 6 ((1 : Int32) + x1).toNatClampNeg) + (1 : Int32))) (fun (M13 : Mm) => fX7_year_L35 n (x1 + (1 : Int32)) M13))))
def fX7_year_L67  : Nat → Int32 → Int32 → Mm → Option (Int32 × Int32 × Mm)
  | 0, _, _, _ => none
  | n + 1, x1, x2, Ml => if (Ml.1 2 ((1 : Int32)).toNatClampNeg) ≤ x2 then (some (x1, x2, Ml)) else (bP (fX7_has (Ml.1 6 ((14 : Int32)).toNatClampNeg) x2) (fun (v20 : Int32) => if v20 = 0 then (fX7_year_L67 n x1 (x2 + (1 : Int32)) Ml) else (ix ((15 : Int32) + x2) 21 (ix ((15 : Int32) + x2) 21 (lt (wI Ml 6 ((15 : Int32) + x2).toNatClampNeg ((Ml.1 6 ((15 : Int32) + x2).toNatClampNeg) + (1 : Int32))) (fun (M24 : Mm) => ix ((15 : Int32) + x2) 21 (if (M24.1 6 ((15 : Int32) + x2).toNatClampNeg) = (M24.1 2 ((3 : Int32)).toNatClampNeg) then (if (1 : Int32) = 0 then (lt (wI M24 6 ((14 : Int32)).toNatClampNeg ((M24.1 6 ((14 : Int32)).toNatClampNeg) &&& (-1 : Int32))) (fun (M29 : Mm) => if (1 : Int32) = 0 then (fX7_year_L67 n (x1 + (0 : Int32)) (x2 + (1 : Int32)) M29) else (fX7_year_L67 n (x1 + (1 : Int32)) (x2 + (1 : Int32)) M29))) else (lt (wI M24 6 ((14 : Int32)).toNatClampNeg ((M24.1 6 ((14 : Int32)).toNatClampNeg) &&& (((1 : Int32) <<< (x2 &&& 31)) ^^^ (-1 : Int32)))) (fun (M32 : Mm) => if (1 : Int32) = 0 then (fX7_year_L67 n (x1 + (0 : Int32)) (x2 + (1 : Int32)) M32) else (fX7_year_L67 n (x1 + (1 : Int32)) (x2 + (1 : Int32)) M32)))) else (if (0 : Int32) = 0 then (lt (wI M24 6 ((14 : Int32)).toNatClampNeg ((M24.1 6 ((14 : Int32)).toNatClampNeg) &&& (-1 : Int32))) (fun (M36 : Mm) => if (0 : Int32) = 0 then (fX7_year_L67 n (x1 + (0 : Int32)) (x2 + (1 : Int32)) M36) else (fX7_year_L67 n (x1 + (1 : Int32)) (x2 + (1 : Int32)) M36))) else (lt (wI M24 6 ((14 : Int32)).toNatClampNeg ((M24.1 6 ((14 : Int32)).toNatClampNeg) &&& (((1 : Int32) <<< (x2 &&& 31)) ^^^ (-1 : Int32)))) (fun (M39 : Mm) => if (0 : Int32) = 0 then (fX7_year_L67 n (x1 + (0 : Int32)) (x2 + (1 : Int32)) M39) else (fX7_year_L67 n (x1 + (1 : Int32)) (x2 + (1 : Int32)) M39)))))))))))
def fX7_year (M : Mm) : Option (Int32 × Mm) :=
  lt (wI M 0 0 (0 : Int32)) (fun (M1 : Mm) => if (M1.1 6 ((0 : Int32)).toNatClampNeg) = (99 : Int32) then (some ((-2 : Int32), M1)) else (bP (fX7_notes M1) (fun (M5 : Mm) => lt (wI M5 6 ((0 : Int32)).toNatClampNeg ((M5.1 6 ((0 : Int32)).toNatClampNeg) + (1 : Int32))) (fun (M6 : Mm) => b2 (fX7_year_L35 50000 (0 : Int32) M6) (fun (w8 : Int32) (M9 : Mm) => b3 (fX7_year_L67 50000 (0 : Int32) (0 : Int32) M9) (fun (w15 : Int32) (w16 : Int32) (M17 : Mm) => some (w15, M17)))))))
set_option maxHeartbeats 4000000 in
set_option maxRecDepth 100000 in
theorem kX7_year (l : Launch) {D : va_G} {cy : Nat → ClassId} {ad : Nat → Nat} (hJ : Inj ad 15)   (M : Mm) (r : Int32) (M' : Mm) (h : fX7_year M = some (r, M')) : Met l yX7_year vX7_year ({ frames := 1, cells := 0, slots := 0, locals := 21 } : Room) (PcF [.ref (ad 0)] D cy ad kdV shM rfM 15 M) (QcI r D cy ad kdV shM rfM 15 M') 0 0 (AV ad 15) := by
  refine Met.ofW (cc := cX7_year) (maxL := 4) (ret := (some .int)) (by decide) rfl ?_
  intro p e s m args below meth c s₁ B hml hv
  obtain ⟨rfl, hP, hK, hN⟩ := hv
  have hr := B.returns
  have hlocks := B.notSynchronized
  have S : CallFix p m c cX7_year 4 s ([.ref (ad 0)] : List Value).toArray vX7_year RX7 := ⟨B.exec, B.bytes, hml, findClass_of_methodNamed B.named, atoms_spec (ws := vX7_year) B.pre⟩
  have hq : ∀ w ∈ GW, w.before ([.ref (ad 0)] : List Value).toArray s = true := fun w h => S.2.2.2.2 w (List.mem_cons_of_mem _ h)
  have hA : ∀ k, k < 15 → AV ad 15 (ad k) := fun k hk => ⟨k, hk, rfl⟩
  have hW : WSt D cy ad kdV shM rfM 15 (AV ad 15) M s.heap s.heap [] := ⟨hP, va_S.rf⟩
  clear hP
  have iX7 : ∀ w ∈ wsX70, w ∈ vX7_year := fun w h => List.mem_cons_of_mem _ (inX7 w h)
  have hl := lv_entry ([.ref (ad 0)]) (n := 4) (Nat.le_of_ble_eq_true rfl)
  rw [lg_entry_eq]
  generalize (lg_sl ([.ref (ad 0)]) ++ List.replicate (4 - (lg_sl ([.ref (ad 0)])).length) Slot.unset).toArray = ls at hl ⊢
  have hl : lv_has ls 4 [(0, .ref (ad 0))] := hl
  rw [fX7_year] at h
  refine lv_aload_n S.1 S.2.1 dX7_year_0 rfl (lv_at hl 0 rfl) ?_
  refine lv_iconst (v := (0 : Int32)) S.1 S.2.1 dX7_year_1 (by decide) ?_
  refine fl_put S hK hJ hA tyX7 tyX7_ok nmX7 iX7 rfl lM_0 sM_0 0 (by decide) (hq _ q_287) (fun _ h9 => h9) rfl (ty := .int) rfl rfl rfl (wI M 0 0 (0 : Int32)) (by decide) (fvs_setI _ _ _ _ _ _ _ rfl) (fun j _ hj => cof_wI_ne hj) hW dX7_year_2 (fun H locs hW => ?_)
  obtain ⟨M1, e2, h⟩ := lt_some h
  rw [e2] at hW
  clear e2
  refine lv_aload_n S.1 S.2.1 dX7_year_5 rfl (lv_at hl 0 rfl) ?_
  refine fl_get S hK iX7 rfl lM_0 sM_0 14 (by decide) (hq _ q_327) (fun _ h9 => h9) (fvs_R rfl rfl) hW dX7_year_6 ?_
  refine lv_iconst (v := (0 : Int32)) S.1 S.2.1 dX7_year_9 (by decide) ?_
  refine fl_iald S hK lM_6 sM_6 (vp_dec (i := (0 : Int32)) (n := 21) (by decide)) hW dX7_year_10 ?_
  refine lv_bipush (v := (99 : Int32)) S.1 S.2.1 dX7_year_11 (by decide) ?_
  refine lv_icmp_ne (tgt := 19) S.1 S.2.1 dX7_year_13 (by decide) (fun c3 => ?_) (fun c3 => ?_)
  · replace h := (if_neg c3).symm.trans h
    refine lv_aload_n S.1 S.2.1 dX7_year_19 rfl (lv_at hl 0 rfl) ?_
    obtain ⟨M5, u4, h⟩ := bP_some h
    refine fl_doneV (fl_runV S hK hN (kX7_notes l hJ M1 M5 u4) (cwV 0 S.2.2.2.2 (gV q_418 q_419 q_420 q_291 q_417) rfl rfl rfl (by decide +kernel) ⟨Nat.le_of_ble_eq_true rfl, Nat.le_of_ble_eq_true rfl⟩) (ci := 7) rfl lM_0 sM_0 rfl hl.1 rfl (Nat.le_of_ble_eq_true rfl) dX7_year_20 ⟨Nat.zero_le _, Nat.zero_le _⟩ hW) hA hW.2 (fun H locs hW => ?_)
    refine lv_aload_n S.1 S.2.1 dX7_year_23 rfl (lv_at hl 0 rfl) ?_
    refine fl_get S hK iX7 rfl lM_0 sM_0 14 (by decide) (hq _ q_327) (fun _ h9 => h9) (fvs_R rfl rfl) hW dX7_year_24 ?_
    refine lv_iconst (v := (0 : Int32)) S.1 S.2.1 dX7_year_27 (by decide) ?_
    refine lv_dup2_11 S.1 S.2.1 dX7_year_28 rfl rfl ?_
    refine fl_iald S hK lM_6 sM_6 (vp_dec (i := (0 : Int32)) (n := 21) (by decide)) hW dX7_year_29 ?_
    refine lv_iconst (v := (1 : Int32)) S.1 S.2.1 dX7_year_30 (by decide) ?_
    refine lv_iadd S.1 S.2.1 dX7_year_31 ?_
    refine fl_iast S hK hJ hA lM_6 sM_6 (vp_dec (i := (0 : Int32)) (n := 21) (by decide)) hW dX7_year_32 (fun H locs hW => ?_)
    obtain ⟨M6, e7, h⟩ := lt_some h
    rw [e7] at hW
    clear e7
    refine lv_iconst (v := (0 : Int32)) S.1 S.2.1 dX7_year_33 (by decide) ?_
    refine lv_istore_n (lv' := [(1, .int (0 : Int32)), (0, .ref (ad 0))]) S.1 S.2.1 dX7_year_34 rfl hl (by decide) rfl (fun ls hl => ?_)
    have L35 : ∀ (n : Nat) (x1 : Int32) (Ml : Mm) (w8 : Int32) (M9 : Mm), fX7_year_L35 n x1 Ml = some (w8, M9) → ∀ (H : Heap) (locs : List Loc) (ls : Array Slot), lv_has ls 4 [(0, .ref (ad 0)), (1, .int x1)] → WSt D cy ad kdV shM rfM 15 (AV ad 15) Ml s.heap H locs → (∀ (H : Heap) (locs : List Loc) (ls : Array Slot), lv_has ls 4 [(0, .ref (ad 0)), (1, .int w8)] → WSt D cy ad kdV shM rfM 15 (AV ad 15) M9 s.heap H locs → W p l e (headSpec vX7_year ({ frames := 1, cells := 0, slots := 0, locals := 21 } : Room)).room s m ([.ref (ad 0)] : List Value).toArray below meth c H locs 0 0 (MQ below (QcI r D cy ad kdV shM rfM 15 M') ([.ref (ad 0)] : List Value).toArray s 0 0 (AV ad 15)) (F0 m 63 ls [])) → W p l e (headSpec vX7_year ({ frames := 1, cells := 0, slots := 0, locals := 21 } : Room)).room s m ([.ref (ad 0)] : List Value).toArray below meth c H locs 0 0 (MQ below (QcI r D cy ad kdV shM rfM 15 M') ([.ref (ad 0)] : List Value).toArray s 0 0 (AV ad 15)) (F0 m 35 ls []) := by
      intro n
      induction n with
      | zero => intro x1 Ml w8 M9 h; cases h
      | succ n ih =>
        intro x1 Ml w8 M9 h H locs ls hl hW K
        rw [fX7_year_L35] at h
        refine lv_iload_n S.1 S.2.1 dX7_year_35 rfl (lv_at hl 1 rfl) ?_
        refine lv_aload_n S.1 S.2.1 dX7_year_36 rfl (lv_at hl 0 rfl) ?_
        refine fl_get S hK iX7 rfl lM_0 sM_0 10 (by decide) (hq _ q_319) (fun _ h9 => h9) (fvs_R rfl rfl) hW dX7_year_37 ?_
        refine lv_iconst (v := (0 : Int32)) S.1 S.2.1 dX7_year_40 (by decide) ?_
        refine fl_iald S hK lM_2 sM_2 (vp_dec (i := (0 : Int32)) (n := 8) (by decide)) hW dX7_year_41 ?_
        refine lv_icmp_ge (tgt := 63) S.1 S.2.1 dX7_year_42 (by decide) (fun c10 => ?_) (fun c10 => ?_)
        · replace h := (if_pos c10).symm.trans h
          obtain ⟨rfl, rfl⟩ := s2 h
          exact K _ _ _ hl hW
        · replace h := (if_neg c10).symm.trans h
          refine lv_aload_n S.1 S.2.1 dX7_year_45 rfl (lv_at hl 0 rfl) ?_
          refine fl_get S hK iX7 rfl lM_0 sM_0 14 (by decide) (hq _ q_327) (fun _ h9 => h9) (fvs_R rfl rfl) hW dX7_year_46 ?_
          refine lv_iconst (v := (1 : Int32)) S.1 S.2.1 dX7_year_49 (by decide) ?_
          refine lv_iload_n S.1 S.2.1 dX7_year_50 rfl (lv_at hl 1 rfl) ?_
          refine lv_iadd S.1 S.2.1 dX7_year_51 ?_
          refine lv_dup2_11 S.1 S.2.1 dX7_year_52 rfl rfl ?_
          obtain ⟨g11, h⟩ := ix_some h
          refine fl_iald S hK lM_6 sM_6 g11 hW dX7_year_53 ?_
          refine lv_iconst (v := (1 : Int32)) S.1 S.2.1 dX7_year_54 (by decide) ?_
          refine lv_iadd S.1 S.2.1 dX7_year_55 ?_
          obtain ⟨g12, h⟩ := ix_some h
          refine fl_iast S hK hJ hA lM_6 sM_6 g12 hW dX7_year_56 (fun H locs hW => ?_)
          obtain ⟨M13, e14, h⟩ := lt_some h
          rw [e14] at hW
          clear e14
          refine lv_iinc (v := x1 + (1 : Int32)) (lv' := [(1, .int (x1 + (1 : Int32))), (0, .ref (ad 0))]) S.1 S.2.1 dX7_year_57 hl (k := 1) rfl rfl (by decide) rfl (fun ls hl => ?_)
          refine lv_goto (tgt := 35) S.1 S.2.1 dX7_year_60 (by decide) ?_
          exact ih _ _ _ _ h _ _ _ (lv_sub hl [1, 0] rfl) hW K
    obtain ⟨w8, M9, u43, h⟩ := b2_some h
    refine L35 50000 _ _ _ _ u43 _ _ _ (lv_sub hl [1, 0] rfl) hW (fun H locs ls hl hW => ?_)
    clear L35
    refine lv_iconst (v := (0 : Int32)) S.1 S.2.1 dX7_year_63 (by decide) ?_
    refine lv_istore_n (lv' := [(1, .int (0 : Int32)), (0, .ref (ad 0))]) S.1 S.2.1 dX7_year_64 rfl hl (by decide) rfl (fun ls hl => ?_)
    refine lv_iconst (v := (0 : Int32)) S.1 S.2.1 dX7_year_65 (by decide) ?_
    refine lv_istore_n (lv' := [(2, .int (0 : Int32)), (1, .int (0 : Int32)), (0, .ref (ad 0))]) S.1 S.2.1 dX7_year_66 rfl hl (by decide) rfl (fun ls hl => ?_)
    have L67 : ∀ (n : Nat) (x1 : Int32) (x2 : Int32) (Ml : Mm) (w15 : Int32) (w16 : Int32) (M17 : Mm), fX7_year_L67 n x1 x2 Ml = some (w15, w16, M17) → ∀ (H : Heap) (locs : List Loc) (ls : Array Slot), lv_has ls 4 [(0, .ref (ad 0)), (1, .int x1), (2, .int x2)] → WSt D cy ad kdV shM rfM 15 (AV ad 15) Ml s.heap H locs → (∀ (H : Heap) (locs : List Loc) (ls : Array Slot), lv_has ls 4 [(0, .ref (ad 0)), (1, .int w15), (2, .int w16)] → WSt D cy ad kdV shM rfM 15 (AV ad 15) M17 s.heap H locs → W p l e (headSpec vX7_year ({ frames := 1, cells := 0, slots := 0, locals := 21 } : Room)).room s m ([.ref (ad 0)] : List Value).toArray below meth c H locs 0 0 (MQ below (QcI r D cy ad kdV shM rfM 15 M') ([.ref (ad 0)] : List Value).toArray s 0 0 (AV ad 15)) (F0 m 169 ls [])) → W p l e (headSpec vX7_year ({ frames := 1, cells := 0, slots := 0, locals := 21 } : Room)).room s m ([.ref (ad 0)] : List Value).toArray below meth c H locs 0 0 (MQ below (QcI r D cy ad kdV shM rfM 15 M') ([.ref (ad 0)] : List Value).toArray s 0 0 (AV ad 15)) (F0 m 67 ls []) := by
      intro n
      induction n with
      | zero => intro x1 x2 Ml w15 w16 M17 h; cases h
      | succ n ih =>
        intro x1 x2 Ml w15 w16 M17 h H locs ls hl hW K
        rw [fX7_year_L67] at h
        refine lv_iload_n S.1 S.2.1 dX7_year_67 rfl (lv_at hl 2 rfl) ?_
        refine lv_aload_n S.1 S.2.1 dX7_year_68 rfl (lv_at hl 0 rfl) ?_
        refine fl_get S hK iX7 rfl lM_0 sM_0 10 (by decide) (hq _ q_319) (fun _ h9 => h9) (fvs_R rfl rfl) hW dX7_year_69 ?_
        refine lv_iconst (v := (1 : Int32)) S.1 S.2.1 dX7_year_72 (by decide) ?_
        refine fl_iald S hK lM_2 sM_2 (vp_dec (i := (1 : Int32)) (n := 8) (by decide)) hW dX7_year_73 ?_
        refine lv_icmp_ge (tgt := 169) S.1 S.2.1 dX7_year_74 (by decide) (fun c18 => ?_) (fun c18 => ?_)
        · replace h := (if_pos c18).symm.trans h
          obtain ⟨rfl, rfl, rfl⟩ := s3 h
          exact K _ _ _ hl hW
        · replace h := (if_neg c18).symm.trans h
          refine lv_aload_n S.1 S.2.1 dX7_year_77 rfl (lv_at hl 0 rfl) ?_
          refine fl_get S hK iX7 rfl lM_0 sM_0 14 (by decide) (hq _ q_327) (fun _ h9 => h9) (fvs_R rfl rfl) hW dX7_year_78 ?_
          refine lv_bipush (v := (14 : Int32)) S.1 S.2.1 dX7_year_81 (by decide) ?_
          refine fl_iald S hK lM_6 sM_6 (vp_dec (i := (14 : Int32)) (n := 21) (by decide)) hW dX7_year_83 ?_
          refine lv_iload_n S.1 S.2.1 dX7_year_84 rfl (lv_at hl 2 rfl) ?_
          obtain ⟨v20, u19, h⟩ := bP_some h
          refine fl_doneP (fl_runS S (kX7_has l (Ml.1 6 ((14 : Int32)).toNatClampNeg) x2 v20 u19) (va_cwS 2 S.2.2.2.2 (gS q_348 q_349 q_291 q_347) rfl rfl rfl (by decide +kernel) ⟨Nat.le_of_ble_eq_true rfl, Nat.le_of_ble_eq_true rfl⟩) rfl hl.1 rfl (Nat.le_of_ble_eq_true rfl) dX7_year_85 ⟨Nat.zero_le _, Nat.zero_le _⟩) hW (fun H locs hW => ?_)
          refine lv_if_eq (tgt := 163) S.1 S.2.1 dX7_year_88 (by decide) (fun c21 => ?_) (fun c21 => ?_)
          · replace h := (if_pos c21).symm.trans h
            refine lv_iinc (v := x2 + (1 : Int32)) (lv' := [(2, .int (x2 + (1 : Int32))), (0, .ref (ad 0)), (1, .int x1)]) S.1 S.2.1 dX7_year_163 hl (k := 2) rfl rfl (by decide) rfl (fun ls hl => ?_)
            refine lv_goto (tgt := 67) S.1 S.2.1 dX7_year_166 (by decide) ?_
            exact ih _ _ _ _ _ _ h _ _ _ (lv_sub hl [1, 2, 0] rfl) hW K
          · replace h := (if_neg c21).symm.trans h
            refine lv_aload_n S.1 S.2.1 dX7_year_91 rfl (lv_at hl 0 rfl) ?_
            refine fl_get S hK iX7 rfl lM_0 sM_0 14 (by decide) (hq _ q_327) (fun _ h9 => h9) (fvs_R rfl rfl) hW dX7_year_92 ?_
            refine lv_bipush (v := (15 : Int32)) S.1 S.2.1 dX7_year_95 (by decide) ?_
            refine lv_iload_n S.1 S.2.1 dX7_year_97 rfl (lv_at hl 2 rfl) ?_
            refine lv_iadd S.1 S.2.1 dX7_year_98 ?_
            refine lv_dup2_11 S.1 S.2.1 dX7_year_99 rfl rfl ?_
            obtain ⟨g22, h⟩ := ix_some h
            refine fl_iald S hK lM_6 sM_6 g22 hW dX7_year_100 ?_
            refine lv_iconst (v := (1 : Int32)) S.1 S.2.1 dX7_year_101 (by decide) ?_
            refine lv_iadd S.1 S.2.1 dX7_year_102 ?_
            obtain ⟨g23, h⟩ := ix_some h
            refine fl_iast S hK hJ hA lM_6 sM_6 g23 hW dX7_year_103 (fun H locs hW => ?_)
            obtain ⟨M24, e25, h⟩ := lt_some h
            rw [e25] at hW
            clear e25
            refine lv_aload_n S.1 S.2.1 dX7_year_104 rfl (lv_at hl 0 rfl) ?_
            refine fl_get S hK iX7 rfl lM_0 sM_0 14 (by decide) (hq _ q_327) (fun _ h9 => h9) (fvs_R rfl rfl) hW dX7_year_105 ?_
            refine lv_bipush (v := (15 : Int32)) S.1 S.2.1 dX7_year_108 (by decide) ?_
            refine lv_iload_n S.1 S.2.1 dX7_year_110 rfl (lv_at hl 2 rfl) ?_
            refine lv_iadd S.1 S.2.1 dX7_year_111 ?_
            obtain ⟨g26, h⟩ := ix_some h
            refine fl_iald S hK lM_6 sM_6 g26 hW dX7_year_112 ?_
            refine lv_aload_n S.1 S.2.1 dX7_year_113 rfl (lv_at hl 0 rfl) ?_
            refine fl_get S hK iX7 rfl lM_0 sM_0 10 (by decide) (hq _ q_319) (fun _ h9 => h9) (fvs_R rfl rfl) hW dX7_year_114 ?_
            refine lv_iconst (v := (3 : Int32)) S.1 S.2.1 dX7_year_117 (by decide) ?_
            refine fl_iald S hK lM_2 sM_2 (vp_dec (i := (3 : Int32)) (n := 8) (by decide)) hW dX7_year_118 ?_
            refine lv_icmp_ne (tgt := 126) S.1 S.2.1 dX7_year_119 (by decide) (fun c27 => ?_) (fun c27 => ?_)
            · replace h := (if_neg c27).symm.trans h
              refine lv_iconst (v := (0 : Int32)) S.1 S.2.1 dX7_year_126 (by decide) ?_
              refine lv_istore_n (lv' := [(3, .int (0 : Int32)), (0, .ref (ad 0)), (1, .int x1), (2, .int x2)]) S.1 S.2.1 dX7_year_127 rfl hl (by decide) rfl (fun ls hl => ?_)
              refine lv_aload_n S.1 S.2.1 dX7_year_128 rfl (lv_at hl 1 rfl) ?_
              refine fl_get S hK iX7 rfl lM_0 sM_0 14 (by decide) (hq _ q_327) (fun _ h9 => h9) (fvs_R rfl rfl) hW dX7_year_129 ?_
              refine lv_bipush (v := (14 : Int32)) S.1 S.2.1 dX7_year_132 (by decide) ?_
              refine lv_dup2_11 S.1 S.2.1 dX7_year_134 rfl rfl ?_
              refine fl_iald S hK lM_6 sM_6 (vp_dec (i := (14 : Int32)) (n := 21) (by decide)) hW dX7_year_135 ?_
              refine lv_iload_n S.1 S.2.1 dX7_year_136 rfl (lv_at hl 0 rfl) ?_
              refine lv_if_eq (tgt := 148) S.1 S.2.1 dX7_year_137 (by decide) (fun c35 => ?_) (fun c35 => ?_)
              · replace h := (if_pos c35).symm.trans h
                refine lv_iconst (v := (-1 : Int32)) S.1 S.2.1 dX7_year_148 (by decide) ?_
                refine lv_iand S.1 S.2.1 dX7_year_149 ?_
                refine fl_iast S hK hJ hA lM_6 sM_6 (vp_dec (i := (14 : Int32)) (n := 21) (by decide)) hW dX7_year_150 (fun H locs hW => ?_)
                obtain ⟨M36, e37, h⟩ := lt_some h
                rw [e37] at hW
                clear e37
                refine lv_iload_n S.1 S.2.1 dX7_year_151 rfl (lv_at hl 2 rfl) ?_
                refine lv_iload_n S.1 S.2.1 dX7_year_152 rfl (lv_at hl 0 rfl) ?_
                refine lv_if_eq (tgt := 160) S.1 S.2.1 dX7_year_153 (by decide) (fun c38 => ?_) (fun c38 => ?_)
                · replace h := (if_pos c38).symm.trans h
                  refine lv_iconst (v := (0 : Int32)) S.1 S.2.1 dX7_year_160 (by decide) ?_
                  refine lv_iadd S.1 S.2.1 dX7_year_161 ?_
                  refine lv_istore_n (lv' := [(1, .int (x1 + (0 : Int32))), (3, .int (0 : Int32)), (0, .ref (ad 0)), (2, .int x2)]) S.1 S.2.1 dX7_year_162 rfl hl (by decide) rfl (fun ls hl => ?_)
                  refine lv_iinc (v := x2 + (1 : Int32)) (lv' := [(2, .int (x2 + (1 : Int32))), (1, .int (x1 + (0 : Int32))), (3, .int (0 : Int32)), (0, .ref (ad 0))]) S.1 S.2.1 dX7_year_163 hl (k := 3) rfl rfl (by decide) rfl (fun ls hl => ?_)
                  refine lv_goto (tgt := 67) S.1 S.2.1 dX7_year_166 (by decide) ?_
                  exact ih _ _ _ _ _ _ h _ _ _ (lv_sub hl [3, 1, 0] rfl) hW K
                · replace h := (if_neg c38).symm.trans h
                  refine lv_iconst (v := (1 : Int32)) S.1 S.2.1 dX7_year_156 (by decide) ?_
                  refine lv_goto (tgt := 161) S.1 S.2.1 dX7_year_157 (by decide) ?_
                  refine lv_iadd S.1 S.2.1 dX7_year_161 ?_
                  refine lv_istore_n (lv' := [(1, .int (x1 + (1 : Int32))), (3, .int (0 : Int32)), (0, .ref (ad 0)), (2, .int x2)]) S.1 S.2.1 dX7_year_162 rfl hl (by decide) rfl (fun ls hl => ?_)
                  refine lv_iinc (v := x2 + (1 : Int32)) (lv' := [(2, .int (x2 + (1 : Int32))), (1, .int (x1 + (1 : Int32))), (3, .int (0 : Int32)), (0, .ref (ad 0))]) S.1 S.2.1 dX7_year_163 hl (k := 3) rfl rfl (by decide) rfl (fun ls hl => ?_)
                  refine lv_goto (tgt := 67) S.1 S.2.1 dX7_year_166 (by decide) ?_
                  exact ih _ _ _ _ _ _ h _ _ _ (lv_sub hl [3, 1, 0] rfl) hW K
              · replace h := (if_neg c35).symm.trans h
                refine lv_iconst (v := (1 : Int32)) S.1 S.2.1 dX7_year_140 (by decide) ?_
                refine lv_iload_n S.1 S.2.1 dX7_year_141 rfl (lv_at hl 3 rfl) ?_
                refine lv_ishl S.1 S.2.1 dX7_year_142 ?_
                refine lv_iconst (v := (-1 : Int32)) S.1 S.2.1 dX7_year_143 (by decide) ?_
                refine lv_ixor S.1 S.2.1 dX7_year_144 ?_
                refine lv_goto (tgt := 149) S.1 S.2.1 dX7_year_145 (by decide) ?_
                refine lv_iand S.1 S.2.1 dX7_year_149 ?_
                refine fl_iast S hK hJ hA lM_6 sM_6 (vp_dec (i := (14 : Int32)) (n := 21) (by decide)) hW dX7_year_150 (fun H locs hW => ?_)
                obtain ⟨M39, e40, h⟩ := lt_some h
                rw [e40] at hW
                clear e40
                refine lv_iload_n S.1 S.2.1 dX7_year_151 rfl (lv_at hl 2 rfl) ?_
                refine lv_iload_n S.1 S.2.1 dX7_year_152 rfl (lv_at hl 0 rfl) ?_
                refine lv_if_eq (tgt := 160) S.1 S.2.1 dX7_year_153 (by decide) (fun c41 => ?_) (fun c41 => ?_)
                · replace h := (if_pos c41).symm.trans h
                  refine lv_iconst (v := (0 : Int32)) S.1 S.2.1 dX7_year_160 (by decide) ?_
                  refine lv_iadd S.1 S.2.1 dX7_year_161 ?_
                  refine lv_istore_n (lv' := [(1, .int (x1 + (0 : Int32))), (3, .int (0 : Int32)), (0, .ref (ad 0)), (2, .int x2)]) S.1 S.2.1 dX7_year_162 rfl hl (by decide) rfl (fun ls hl => ?_)
                  refine lv_iinc (v := x2 + (1 : Int32)) (lv' := [(2, .int (x2 + (1 : Int32))), (1, .int (x1 + (0 : Int32))), (3, .int (0 : Int32)), (0, .ref (ad 0))]) S.1 S.2.1 dX7_year_163 hl (k := 3) rfl rfl (by decide) rfl (fun ls hl => ?_)
                  refine lv_goto (tgt := 67) S.1 S.2.1 dX7_year_166 (by decide) ?_
                  exact ih _ _ _ _ _ _ h _ _ _ (lv_sub hl [3, 1, 0] rfl) hW K
                · replace h := (if_neg c41).symm.trans h
                  refine lv_iconst (v := (1 : Int32)) S.1 S.2.1 dX7_year_156 (by decide) ?_
                  refine lv_goto (tgt := 161) S.1 S.2.1 dX7_year_157 (by decide) ?_
                  refine lv_iadd S.1 S.2.1 dX7_year_161 ?_
                  refine lv_istore_n (lv' := [(1, .int (x1 + (1 : Int32))), (3, .int (0 : Int32)), (0, .ref (ad 0)), (2, .int x2)]) S.1 S.2.1 dX7_year_162 rfl hl (by decide) rfl (fun ls hl => ?_)
                  refine lv_iinc (v := x2 + (1 : Int32)) (lv' := [(2, .int (x2 + (1 : Int32))), (1, .int (x1 + (1 : Int32))), (3, .int (0 : Int32)), (0, .ref (ad 0))]) S.1 S.2.1 dX7_year_163 hl (k := 3) rfl rfl (by decide) rfl (fun ls hl => ?_)
                  refine lv_goto (tgt := 67) S.1 S.2.1 dX7_year_166 (by decide) ?_
                  exact ih _ _ _ _ _ _ h _ _ _ (lv_sub hl [3, 1, 0] rfl) hW K
            · replace h := (if_pos c27).symm.trans h
              refine lv_iconst (v := (1 : Int32)) S.1 S.2.1 dX7_year_122 (by decide) ?_
              refine lv_goto (tgt := 127) S.1 S.2.1 dX7_year_123 (by decide) ?_
              refine lv_istore_n (lv' := [(3, .int (1 : Int32)), (0, .ref (ad 0)), (1, .int x1), (2, .int x2)]) S.1 S.2.1 dX7_year_127 rfl hl (by decide) rfl (fun ls hl => ?_)
              refine lv_aload_n S.1 S.2.1 dX7_year_128 rfl (lv_at hl 1 rfl) ?_
              refine fl_get S hK iX7 rfl lM_0 sM_0 14 (by decide) (hq _ q_327) (fun _ h9 => h9) (fvs_R rfl rfl) hW dX7_year_129 ?_
              refine lv_bipush (v := (14 : Int32)) S.1 S.2.1 dX7_year_132 (by decide) ?_
              refine lv_dup2_11 S.1 S.2.1 dX7_year_134 rfl rfl ?_
              refine fl_iald S hK lM_6 sM_6 (vp_dec (i := (14 : Int32)) (n := 21) (by decide)) hW dX7_year_135 ?_
              refine lv_iload_n S.1 S.2.1 dX7_year_136 rfl (lv_at hl 0 rfl) ?_
              refine lv_if_eq (tgt := 148) S.1 S.2.1 dX7_year_137 (by decide) (fun c28 => ?_) (fun c28 => ?_)
              · replace h := (if_pos c28).symm.trans h
                refine lv_iconst (v := (-1 : Int32)) S.1 S.2.1 dX7_year_148 (by decide) ?_
                refine lv_iand S.1 S.2.1 dX7_year_149 ?_
                refine fl_iast S hK hJ hA lM_6 sM_6 (vp_dec (i := (14 : Int32)) (n := 21) (by decide)) hW dX7_year_150 (fun H locs hW => ?_)
                obtain ⟨M29, e30, h⟩ := lt_some h
                rw [e30] at hW
                clear e30
                refine lv_iload_n S.1 S.2.1 dX7_year_151 rfl (lv_at hl 2 rfl) ?_
                refine lv_iload_n S.1 S.2.1 dX7_year_152 rfl (lv_at hl 0 rfl) ?_
                refine lv_if_eq (tgt := 160) S.1 S.2.1 dX7_year_153 (by decide) (fun c31 => ?_) (fun c31 => ?_)
                · replace h := (if_pos c31).symm.trans h
                  refine lv_iconst (v := (0 : Int32)) S.1 S.2.1 dX7_year_160 (by decide) ?_
                  refine lv_iadd S.1 S.2.1 dX7_year_161 ?_
                  refine lv_istore_n (lv' := [(1, .int (x1 + (0 : Int32))), (3, .int (1 : Int32)), (0, .ref (ad 0)), (2, .int x2)]) S.1 S.2.1 dX7_year_162 rfl hl (by decide) rfl (fun ls hl => ?_)
                  refine lv_iinc (v := x2 + (1 : Int32)) (lv' := [(2, .int (x2 + (1 : Int32))), (1, .int (x1 + (0 : Int32))), (3, .int (1 : Int32)), (0, .ref (ad 0))]) S.1 S.2.1 dX7_year_163 hl (k := 3) rfl rfl (by decide) rfl (fun ls hl => ?_)
                  refine lv_goto (tgt := 67) S.1 S.2.1 dX7_year_166 (by decide) ?_
                  exact ih _ _ _ _ _ _ h _ _ _ (lv_sub hl [3, 1, 0] rfl) hW K
                · replace h := (if_neg c31).symm.trans h
                  refine lv_iconst (v := (1 : Int32)) S.1 S.2.1 dX7_year_156 (by decide) ?_
                  refine lv_goto (tgt := 161) S.1 S.2.1 dX7_year_157 (by decide) ?_
                  refine lv_iadd S.1 S.2.1 dX7_year_161 ?_
                  refine lv_istore_n (lv' := [(1, .int (x1 + (1 : Int32))), (3, .int (1 : Int32)), (0, .ref (ad 0)), (2, .int x2)]) S.1 S.2.1 dX7_year_162 rfl hl (by decide) rfl (fun ls hl => ?_)
                  refine lv_iinc (v := x2 + (1 : Int32)) (lv' := [(2, .int (x2 + (1 : Int32))), (1, .int (x1 + (1 : Int32))), (3, .int (1 : Int32)), (0, .ref (ad 0))]) S.1 S.2.1 dX7_year_163 hl (k := 3) rfl rfl (by decide) rfl (fun ls hl => ?_)
                  refine lv_goto (tgt := 67) S.1 S.2.1 dX7_year_166 (by decide) ?_
                  exact ih _ _ _ _ _ _ h _ _ _ (lv_sub hl [3, 1, 0] rfl) hW K
              · replace h := (if_neg c28).symm.trans h
                refine lv_iconst (v := (1 : Int32)) S.1 S.2.1 dX7_year_140 (by decide) ?_
                refine lv_iload_n S.1 S.2.1 dX7_year_141 rfl (lv_at hl 3 rfl) ?_
                refine lv_ishl S.1 S.2.1 dX7_year_142 ?_
                refine lv_iconst (v := (-1 : Int32)) S.1 S.2.1 dX7_year_143 (by decide) ?_
                refine lv_ixor S.1 S.2.1 dX7_year_144 ?_
                refine lv_goto (tgt := 149) S.1 S.2.1 dX7_year_145 (by decide) ?_
                refine lv_iand S.1 S.2.1 dX7_year_149 ?_
                refine fl_iast S hK hJ hA lM_6 sM_6 (vp_dec (i := (14 : Int32)) (n := 21) (by decide)) hW dX7_year_150 (fun H locs hW => ?_)
                obtain ⟨M32, e33, h⟩ := lt_some h
                rw [e33] at hW
                clear e33
                refine lv_iload_n S.1 S.2.1 dX7_year_151 rfl (lv_at hl 2 rfl) ?_
                refine lv_iload_n S.1 S.2.1 dX7_year_152 rfl (lv_at hl 0 rfl) ?_
                refine lv_if_eq (tgt := 160) S.1 S.2.1 dX7_year_153 (by decide) (fun c34 => ?_) (fun c34 => ?_)
                · replace h := (if_pos c34).symm.trans h
                  refine lv_iconst (v := (0 : Int32)) S.1 S.2.1 dX7_year_160 (by decide) ?_
                  refine lv_iadd S.1 S.2.1 dX7_year_161 ?_
                  refine lv_istore_n (lv' := [(1, .int (x1 + (0 : Int32))), (3, .int (1 : Int32)), (0, .ref (ad 0)), (2, .int x2)]) S.1 S.2.1 dX7_year_162 rfl hl (by decide) rfl (fun ls hl => ?_)
                  refine lv_iinc (v := x2 + (1 : Int32)) (lv' := [(2, .int (x2 + (1 : Int32))), (1, .int (x1 + (0 : Int32))), (3, .int (1 : Int32)), (0, .ref (ad 0))]) S.1 S.2.1 dX7_year_163 hl (k := 3) rfl rfl (by decide) rfl (fun ls hl => ?_)
                  refine lv_goto (tgt := 67) S.1 S.2.1 dX7_year_166 (by decide) ?_
                  exact ih _ _ _ _ _ _ h _ _ _ (lv_sub hl [3, 1, 0] rfl) hW K
                · replace h := (if_neg c34).symm.trans h
                  refine lv_iconst (v := (1 : Int32)) S.1 S.2.1 dX7_year_156 (by decide) ?_
                  refine lv_goto (tgt := 161) S.1 S.2.1 dX7_year_157 (by decide) ?_
                  refine lv_iadd S.1 S.2.1 dX7_year_161 ?_
                  refine lv_istore_n (lv' := [(1, .int (x1 + (1 : Int32))), (3, .int (1 : Int32)), (0, .ref (ad 0)), (2, .int x2)]) S.1 S.2.1 dX7_year_162 rfl hl (by decide) rfl (fun ls hl => ?_)
                  refine lv_iinc (v := x2 + (1 : Int32)) (lv' := [(2, .int (x2 + (1 : Int32))), (1, .int (x1 + (1 : Int32))), (3, .int (1 : Int32)), (0, .ref (ad 0))]) S.1 S.2.1 dX7_year_163 hl (k := 3) rfl rfl (by decide) rfl (fun ls hl => ?_)
                  refine lv_goto (tgt := 67) S.1 S.2.1 dX7_year_166 (by decide) ?_
                  exact ih _ _ _ _ _ _ h _ _ _ (lv_sub hl [3, 1, 0] rfl) hW K
    obtain ⟨w15, w16, M17, u42, h⟩ := b3_some h
    refine L67 50000 _ _ _ _ _ _ u42 _ _ _ (lv_sub hl [2, 1, 0] rfl) hW (fun H locs ls hl hW => ?_)
    clear L67
    refine lv_iload_n S.1 S.2.1 dX7_year_169 rfl (lv_at hl 1 rfl) ?_
    obtain ⟨rfl, rfl⟩ := s2 h
    exact fl_iret S.1 S.2.1 hr hlocks hW dX7_year_170
  · replace h := (if_pos c3).symm.trans h
    refine lv_bipush (v := (-2 : Int32)) S.1 S.2.1 dX7_year_16 (by decide) ?_
    obtain ⟨rfl, rfl⟩ := s2 h
    exact fl_iret S.1 S.2.1 hr hlocks hW dX7_year_18
def fX7_joins_L79 (p1 : Int32) (p2 : Int32) (M1 : Mm) (j16 : Int32) : Nat → Int32 → Mm → Option (Int32 × Mm)
  | 0, _, _ => none
  | n + 1, x6, Ml => if (6 : Int32) ≤ x6 then (some (x6, Ml)) else (ix ((7 : Int32) + x6) 21 (if (Ml.1 6 ((7 : Int32) + x6).toNatClampNeg) = (M1.1 6 ((7 : Int32) + p1).toNatClampNeg) then (ix ((7 : Int32) + x6) 21 (lt (wI Ml 6 ((7 : Int32) + x6).toNatClampNeg j16) (fun (M24 : Mm) => fX7_joins_L79 p1 p2 M1 j16 n (x6 + (1 : Int32)) M24))) else (if (Ml.1 6 ((7 : Int32) + x6).toNatClampNeg) = (M1.1 6 ((7 : Int32) + p2).toNatClampNeg) then (ix ((7 : Int32) + x6) 21 (lt (wI Ml 6 ((7 : Int32) + x6).toNatClampNeg j16) (fun (M28 : Mm) => fX7_joins_L79 p1 p2 M1 j16 n (x6 + (1 : Int32)) M28))) else (ix ((7 : Int32) + x6) 21 (lt (wI Ml 6 ((7 : Int32) + x6).toNatClampNeg (Ml.1 6 ((7 : Int32) + x6).toNatClampNeg)) (fun (M31 : Mm) => fX7_joins_L79 p1 p2 M1 j16 n (x6 + (1 : Int32)) M31))))))
def fX7_joins (p1 : Int32) (p2 : Int32) (M : Mm) : Option (Int32 × Mm) :=
  lt (wI M 0 0 (0 : Int32)) (fun (M1 : Mm) => bP (fX7_isRoom p1 M1) (fun (v4 : Int32) => if v4 = 0 then (some ((-1 : Int32), M1)) else (bP (fX7_isRoom p2 M1) (fun (v7 : Int32) => if v7 = 0 then (some ((-1 : Int32), M1)) else (if p1 = p2 then (some ((-1 : Int32), M1)) else (ix ((7 : Int32) + p1) 21 (ix ((7 : Int32) + p2) 21 (if (M1.1 6 ((7 : Int32) + p1).toNatClampNeg) = (M1.1 6 ((7 : Int32) + p2).toNatClampNeg) then (some ((-2 : Int32), M1)) else (bP (fX7_notes M1) (fun (M14 : Mm) => bP (if (M1.1 6 ((7 : Int32) + p2).toNatClampNeg) ≤ (M1.1 6 ((7 : Int32) + p1).toNatClampNeg) then (some (M1.1 6 ((7 : Int32) + p2).toNatClampNeg)) else (some (M1.1 6 ((7 : Int32) + p1).toNatClampNeg))) (fun (j16 : Int32) => b2 (fX7_joins_L79 p1 p2 M1 j16 50000 (0 : Int32) M14) (fun (w18 : Int32) (M19 : Mm) => bP (fX7_ageOf p1 M19) (fun (v34 : Int32) => some (v34, M19))))))))))))))
set_option maxHeartbeats 4000000 in
set_option maxRecDepth 100000 in
theorem kX7_joins (l : Launch) {D : va_G} {cy : Nat → ClassId} {ad : Nat → Nat} (hJ : Inj ad 15)  (p1 : Int32) (p2 : Int32) (M : Mm) (r : Int32) (M' : Mm) (h : fX7_joins p1 p2 M = some (r, M')) : Met l yX7_joins vX7_joins ({ frames := 3, cells := 0, slots := 0, locals := 66 } : Room) (PcF [.ref (ad 0), .int p1, .int p2] D cy ad kdV shM rfM 15 M) (QcI r D cy ad kdV shM rfM 15 M') 0 0 (AV ad 15) := by
  refine Met.ofW (cc := cX7_joins) (maxL := 8) (ret := (some .int)) (by decide) rfl ?_
  intro p e s m args below meth c s₁ B hml hv
  obtain ⟨rfl, hP, hK, hN⟩ := hv
  have hr := B.returns
  have hlocks := B.notSynchronized
  have S : CallFix p m c cX7_joins 8 s ([.ref (ad 0), .int p1, .int p2] : List Value).toArray vX7_joins RX7 := ⟨B.exec, B.bytes, hml, findClass_of_methodNamed B.named, atoms_spec (ws := vX7_joins) B.pre⟩
  have hq : ∀ w ∈ GW, w.before ([.ref (ad 0), .int p1, .int p2] : List Value).toArray s = true := fun w h => S.2.2.2.2 w (List.mem_cons_of_mem _ h)
  have hA : ∀ k, k < 15 → AV ad 15 (ad k) := fun k hk => ⟨k, hk, rfl⟩
  have hW : WSt D cy ad kdV shM rfM 15 (AV ad 15) M s.heap s.heap [] := ⟨hP, va_S.rf⟩
  clear hP
  have iX7 : ∀ w ∈ wsX70, w ∈ vX7_joins := fun w h => List.mem_cons_of_mem _ (inX7 w h)
  have hl := lv_entry ([.ref (ad 0), .int p1, .int p2]) (n := 8) (Nat.le_of_ble_eq_true rfl)
  rw [lg_entry_eq]
  generalize (lg_sl ([.ref (ad 0), .int p1, .int p2]) ++ List.replicate (8 - (lg_sl ([.ref (ad 0), .int p1, .int p2])).length) Slot.unset).toArray = ls at hl ⊢
  have hl : lv_has ls 8 [(0, .ref (ad 0)), (1, .int p1), (2, .int p2)] := hl
  rw [fX7_joins] at h
  refine lv_aload_n S.1 S.2.1 dX7_joins_0 rfl (lv_at hl 0 rfl) ?_
  refine lv_iconst (v := (0 : Int32)) S.1 S.2.1 dX7_joins_1 (by decide) ?_
  refine fl_put S hK hJ hA tyX7 tyX7_ok nmX7 iX7 rfl lM_0 sM_0 0 (by decide) (hq _ q_287) (fun _ h9 => h9) rfl (ty := .int) rfl rfl rfl (wI M 0 0 (0 : Int32)) (by decide) (fvs_setI _ _ _ _ _ _ _ rfl) (fun j _ hj => cof_wI_ne hj) hW dX7_joins_2 (fun H locs hW => ?_)
  obtain ⟨M1, e2, h⟩ := lt_some h
  rw [e2] at hW
  clear e2
  refine lv_aload_n S.1 S.2.1 dX7_joins_5 rfl (lv_at hl 0 rfl) ?_
  refine lv_iload_n S.1 S.2.1 dX7_joins_6 rfl (lv_at hl 1 rfl) ?_
  obtain ⟨v4, u3, h⟩ := bP_some h
  refine fl_doneI (fl_runV S hK hN (kX7_isRoom l hJ p1 M1 v4 u3) (cwV 1 S.2.2.2.2 (gV q_374 q_375 q_376 q_291 q_373) rfl rfl rfl (by decide +kernel) ⟨Nat.le_of_ble_eq_true rfl, Nat.le_of_ble_eq_true rfl⟩) (ci := 7) rfl lM_0 sM_0 rfl hl.1 rfl (Nat.le_of_ble_eq_true rfl) dX7_joins_7 ⟨Nat.zero_le _, Nat.zero_le _⟩ hW) hA hW.2 (fun H locs hW => ?_)
  refine lv_if_eq (tgt := 26) S.1 S.2.1 dX7_joins_10 (by decide) (fun c5 => ?_) (fun c5 => ?_)
  · replace h := (if_pos c5).symm.trans h
    refine lv_iconst (v := (-1 : Int32)) S.1 S.2.1 dX7_joins_26 (by decide) ?_
    obtain ⟨rfl, rfl⟩ := s2 h
    exact fl_iret S.1 S.2.1 hr hlocks hW dX7_joins_27
  · replace h := (if_neg c5).symm.trans h
    refine lv_aload_n S.1 S.2.1 dX7_joins_13 rfl (lv_at hl 0 rfl) ?_
    refine lv_iload_n S.1 S.2.1 dX7_joins_14 rfl (lv_at hl 2 rfl) ?_
    obtain ⟨v7, u6, h⟩ := bP_some h
    refine fl_doneI (fl_runV S hK hN (kX7_isRoom l hJ p2 M1 v7 u6) (cwV 1 S.2.2.2.2 (gV q_374 q_375 q_376 q_291 q_373) rfl rfl rfl (by decide +kernel) ⟨Nat.le_of_ble_eq_true rfl, Nat.le_of_ble_eq_true rfl⟩) (ci := 7) rfl lM_0 sM_0 rfl hl.1 rfl (Nat.le_of_ble_eq_true rfl) dX7_joins_15 ⟨Nat.zero_le _, Nat.zero_le _⟩ hW) hA hW.2 (fun H locs hW => ?_)
    refine lv_if_eq (tgt := 26) S.1 S.2.1 dX7_joins_18 (by decide) (fun c8 => ?_) (fun c8 => ?_)
    · replace h := (if_pos c8).symm.trans h
      refine lv_iconst (v := (-1 : Int32)) S.1 S.2.1 dX7_joins_26 (by decide) ?_
      obtain ⟨rfl, rfl⟩ := s2 h
      exact fl_iret S.1 S.2.1 hr hlocks hW dX7_joins_27
    · replace h := (if_neg c8).symm.trans h
      refine lv_iload_n S.1 S.2.1 dX7_joins_21 rfl (lv_at hl 1 rfl) ?_
      refine lv_iload_n S.1 S.2.1 dX7_joins_22 rfl (lv_at hl 2 rfl) ?_
      refine lv_icmp_ne (tgt := 28) S.1 S.2.1 dX7_joins_23 (by decide) (fun c9 => ?_) (fun c9 => ?_)
      · replace h := (if_neg c9).symm.trans h
        refine lv_aload_n S.1 S.2.1 dX7_joins_28 rfl (lv_at hl 0 rfl) ?_
        refine fl_get S hK iX7 rfl lM_0 sM_0 14 (by decide) (hq _ q_327) (fun _ h9 => h9) (fvs_R rfl rfl) hW dX7_joins_29 ?_
        refine lv_bipush (v := (7 : Int32)) S.1 S.2.1 dX7_joins_32 (by decide) ?_
        refine lv_iload_n S.1 S.2.1 dX7_joins_34 rfl (lv_at hl 1 rfl) ?_
        refine lv_iadd S.1 S.2.1 dX7_joins_35 ?_
        obtain ⟨g10, h⟩ := ix_some h
        refine fl_iald S hK lM_6 sM_6 g10 hW dX7_joins_36 ?_
        refine lv_istore_n (lv' := [(3, .int (M1.1 6 ((7 : Int32) + p1).toNatClampNeg)), (0, .ref (ad 0)), (1, .int p1), (2, .int p2)]) S.1 S.2.1 dX7_joins_37 rfl hl (by decide) rfl (fun ls hl => ?_)
        refine lv_aload_n S.1 S.2.1 dX7_joins_38 rfl (lv_at hl 1 rfl) ?_
        refine fl_get S hK iX7 rfl lM_0 sM_0 14 (by decide) (hq _ q_327) (fun _ h9 => h9) (fvs_R rfl rfl) hW dX7_joins_39 ?_
        refine lv_bipush (v := (7 : Int32)) S.1 S.2.1 dX7_joins_42 (by decide) ?_
        refine lv_iload_n S.1 S.2.1 dX7_joins_44 rfl (lv_at hl 3 rfl) ?_
        refine lv_iadd S.1 S.2.1 dX7_joins_45 ?_
        obtain ⟨g11, h⟩ := ix_some h
        refine fl_iald S hK lM_6 sM_6 g11 hW dX7_joins_46 ?_
        refine lv_istore (lv' := [(4, .int (M1.1 6 ((7 : Int32) + p2).toNatClampNeg)), (3, .int (M1.1 6 ((7 : Int32) + p1).toNatClampNeg)), (0, .ref (ad 0)), (1, .int p1), (2, .int p2)]) S.1 S.2.1 dX7_joins_47 hl (by decide) rfl (fun ls hl => ?_)
        refine lv_iload_n S.1 S.2.1 dX7_joins_49 rfl (lv_at hl 1 rfl) ?_
        refine lv_iload S.1 S.2.1 dX7_joins_50 (lv_at hl 0 rfl) ?_
        refine lv_icmp_ne (tgt := 58) S.1 S.2.1 dX7_joins_52 (by decide) (fun c12 => ?_) (fun c12 => ?_)
        · replace h := (if_neg c12).symm.trans h
          refine lv_aload_n S.1 S.2.1 dX7_joins_58 rfl (lv_at hl 2 rfl) ?_
          obtain ⟨M14, u13, h⟩ := bP_some h
          refine fl_doneV (fl_runV S hK hN (kX7_notes l hJ M1 M14 u13) (cwV 0 S.2.2.2.2 (gV q_418 q_419 q_420 q_291 q_417) rfl rfl rfl (by decide +kernel) ⟨Nat.le_of_ble_eq_true rfl, Nat.le_of_ble_eq_true rfl⟩) (ci := 7) rfl lM_0 sM_0 rfl hl.1 rfl (Nat.le_of_ble_eq_true rfl) dX7_joins_59 ⟨Nat.zero_le _, Nat.zero_le _⟩ hW) hA hW.2 (fun H locs hW => ?_)
          refine lv_iload_n S.1 S.2.1 dX7_joins_62 rfl (lv_at hl 1 rfl) ?_
          refine lv_iload S.1 S.2.1 dX7_joins_63 (lv_at hl 0 rfl) ?_
          obtain ⟨j16, u36, h⟩ := bP_some h
          have J17 : ∀ (H : Heap) (locs : List Loc) (ls : Array Slot), lv_has ls 8 [(0, .ref (ad 0)), (1, .int p1), (2, .int p2), (3, .int (M1.1 6 ((7 : Int32) + p1).toNatClampNeg)), (4, .int (M1.1 6 ((7 : Int32) + p2).toNatClampNeg))] → WSt D cy ad kdV shM rfM 15 (AV ad 15) M14 s.heap H locs → W p l e (headSpec vX7_joins ({ frames := 3, cells := 0, slots := 0, locals := 66 } : Room)).room s m ([.ref (ad 0), .int p1, .int p2] : List Value).toArray below meth c H locs 0 0 (MQ below (QcI r D cy ad kdV shM rfM 15 M') ([.ref (ad 0), .int p1, .int p2] : List Value).toArray s 0 0 (AV ad 15)) (F0 m 74 ls [.int j16]) := by
            intro H locs ls hl hW
            refine lv_istore (lv' := [(5, .int j16), (0, .ref (ad 0)), (1, .int p1), (2, .int p2), (3, .int (M1.1 6 ((7 : Int32) + p1).toNatClampNeg)), (4, .int (M1.1 6 ((7 : Int32) + p2).toNatClampNeg))]) S.1 S.2.1 dX7_joins_74 hl (by decide) rfl (fun ls hl => ?_)
            refine lv_iconst (v := (0 : Int32)) S.1 S.2.1 dX7_joins_76 (by decide) ?_
            refine lv_istore (lv' := [(6, .int (0 : Int32)), (5, .int j16), (0, .ref (ad 0)), (1, .int p1), (2, .int p2), (3, .int (M1.1 6 ((7 : Int32) + p1).toNatClampNeg)), (4, .int (M1.1 6 ((7 : Int32) + p2).toNatClampNeg))]) S.1 S.2.1 dX7_joins_77 hl (by decide) rfl (fun ls hl => ?_)
            have L79 : ∀ (n : Nat) (x6 : Int32) (Ml : Mm) (w18 : Int32) (M19 : Mm), fX7_joins_L79 p1 p2 M1 j16 n x6 Ml = some (w18, M19) → ∀ (H : Heap) (locs : List Loc) (ls : Array Slot), lv_has ls 8 [(0, .ref (ad 0)), (1, .int p1), (2, .int p2), (3, .int (M1.1 6 ((7 : Int32) + p1).toNatClampNeg)), (4, .int (M1.1 6 ((7 : Int32) + p2).toNatClampNeg)), (5, .int j16), (6, .int x6)] → WSt D cy ad kdV shM rfM 15 (AV ad 15) Ml s.heap H locs → (∀ (H : Heap) (locs : List Loc) (ls : Array Slot), lv_has ls 8 [(0, .ref (ad 0)), (1, .int p1), (2, .int p2), (3, .int (M1.1 6 ((7 : Int32) + p1).toNatClampNeg)), (4, .int (M1.1 6 ((7 : Int32) + p2).toNatClampNeg)), (5, .int j16), (6, .int w18)] → WSt D cy ad kdV shM rfM 15 (AV ad 15) M19 s.heap H locs → W p l e (headSpec vX7_joins ({ frames := 3, cells := 0, slots := 0, locals := 66 } : Room)).room s m ([.ref (ad 0), .int p1, .int p2] : List Value).toArray below meth c H locs 0 0 (MQ below (QcI r D cy ad kdV shM rfM 15 M') ([.ref (ad 0), .int p1, .int p2] : List Value).toArray s 0 0 (AV ad 15)) (F0 m 134 ls [])) → W p l e (headSpec vX7_joins ({ frames := 3, cells := 0, slots := 0, locals := 66 } : Room)).room s m ([.ref (ad 0), .int p1, .int p2] : List Value).toArray below meth c H locs 0 0 (MQ below (QcI r D cy ad kdV shM rfM 15 M') ([.ref (ad 0), .int p1, .int p2] : List Value).toArray s 0 0 (AV ad 15)) (F0 m 79 ls []) := by
              intro n
              induction n with
              | zero => intro x6 Ml w18 M19 h; cases h
              | succ n ih =>
                intro x6 Ml w18 M19 h H locs ls hl hW K
                rw [fX7_joins_L79] at h
                refine lv_iload S.1 S.2.1 dX7_joins_79 (lv_at hl 6 rfl) ?_
                refine lv_bipush (v := (6 : Int32)) S.1 S.2.1 dX7_joins_81 (by decide) ?_
                refine lv_icmp_ge (tgt := 134) S.1 S.2.1 dX7_joins_83 (by decide) (fun c20 => ?_) (fun c20 => ?_)
                · replace h := (if_pos c20).symm.trans h
                  obtain ⟨rfl, rfl⟩ := s2 h
                  exact K _ _ _ hl hW
                · replace h := (if_neg c20).symm.trans h
                  refine lv_aload_n S.1 S.2.1 dX7_joins_86 rfl (lv_at hl 0 rfl) ?_
                  refine fl_get S hK iX7 rfl lM_0 sM_0 14 (by decide) (hq _ q_327) (fun _ h9 => h9) (fvs_R rfl rfl) hW dX7_joins_87 ?_
                  refine lv_bipush (v := (7 : Int32)) S.1 S.2.1 dX7_joins_90 (by decide) ?_
                  refine lv_iload S.1 S.2.1 dX7_joins_92 (lv_at hl 6 rfl) ?_
                  refine lv_iadd S.1 S.2.1 dX7_joins_94 ?_
                  obtain ⟨g21, h⟩ := ix_some h
                  refine fl_iald S hK lM_6 sM_6 g21 hW dX7_joins_95 ?_
                  refine lv_istore (lv' := [(7, .int (Ml.1 6 ((7 : Int32) + x6).toNatClampNeg)), (0, .ref (ad 0)), (1, .int p1), (2, .int p2), (3, .int (M1.1 6 ((7 : Int32) + p1).toNatClampNeg)), (4, .int (M1.1 6 ((7 : Int32) + p2).toNatClampNeg)), (5, .int j16), (6, .int x6)]) S.1 S.2.1 dX7_joins_96 hl (by decide) rfl (fun ls hl => ?_)
                  refine lv_aload_n S.1 S.2.1 dX7_joins_98 rfl (lv_at hl 1 rfl) ?_
                  refine fl_get S hK iX7 rfl lM_0 sM_0 14 (by decide) (hq _ q_327) (fun _ h9 => h9) (fvs_R rfl rfl) hW dX7_joins_99 ?_
                  refine lv_bipush (v := (7 : Int32)) S.1 S.2.1 dX7_joins_102 (by decide) ?_
                  refine lv_iload S.1 S.2.1 dX7_joins_104 (lv_at hl 7 rfl) ?_
                  refine lv_iadd S.1 S.2.1 dX7_joins_106 ?_
                  refine lv_iload S.1 S.2.1 dX7_joins_107 (lv_at hl 0 rfl) ?_
                  refine lv_iload_n S.1 S.2.1 dX7_joins_109 rfl (lv_at hl 4 rfl) ?_
                  refine lv_icmp_eq (tgt := 120) S.1 S.2.1 dX7_joins_110 (by decide) (fun c22 => ?_) (fun c22 => ?_)
                  · replace h := (if_pos c22).symm.trans h
                    refine lv_iload S.1 S.2.1 dX7_joins_120 (lv_at hl 6 rfl) ?_
                    refine lv_goto (tgt := 127) S.1 S.2.1 dX7_joins_122 (by decide) ?_
                    obtain ⟨g23, h⟩ := ix_some h
                    refine fl_iast S hK hJ hA lM_6 sM_6 g23 hW dX7_joins_127 (fun H locs hW => ?_)
                    obtain ⟨M24, e25, h⟩ := lt_some h
                    rw [e25] at hW
                    clear e25
                    refine lv_iinc (v := x6 + (1 : Int32)) (lv' := [(6, .int (x6 + (1 : Int32))), (7, .int (Ml.1 6 ((7 : Int32) + x6).toNatClampNeg)), (0, .ref (ad 0)), (1, .int p1), (2, .int p2), (3, .int (M1.1 6 ((7 : Int32) + p1).toNatClampNeg)), (4, .int (M1.1 6 ((7 : Int32) + p2).toNatClampNeg)), (5, .int j16)]) S.1 S.2.1 dX7_joins_128 hl (k := 7) rfl rfl (by decide) rfl (fun ls hl => ?_)
                    refine lv_goto (tgt := 79) S.1 S.2.1 dX7_joins_131 (by decide) ?_
                    exact ih _ _ _ _ h _ _ _ (lv_sub hl [2, 3, 4, 5, 6, 7, 0] rfl) hW K
                  · replace h := (if_neg c22).symm.trans h
                    refine lv_iload S.1 S.2.1 dX7_joins_113 (lv_at hl 0 rfl) ?_
                    refine lv_iload S.1 S.2.1 dX7_joins_115 (lv_at hl 5 rfl) ?_
                    refine lv_icmp_ne (tgt := 125) S.1 S.2.1 dX7_joins_117 (by decide) (fun c26 => ?_) (fun c26 => ?_)
                    · replace h := (if_neg c26).symm.trans h
                      refine lv_iload S.1 S.2.1 dX7_joins_125 (lv_at hl 0 rfl) ?_
                      obtain ⟨g30, h⟩ := ix_some h
                      refine fl_iast S hK hJ hA lM_6 sM_6 g30 hW dX7_joins_127 (fun H locs hW => ?_)
                      obtain ⟨M31, e32, h⟩ := lt_some h
                      rw [e32] at hW
                      clear e32
                      refine lv_iinc (v := x6 + (1 : Int32)) (lv' := [(6, .int (x6 + (1 : Int32))), (7, .int (Ml.1 6 ((7 : Int32) + x6).toNatClampNeg)), (0, .ref (ad 0)), (1, .int p1), (2, .int p2), (3, .int (M1.1 6 ((7 : Int32) + p1).toNatClampNeg)), (4, .int (M1.1 6 ((7 : Int32) + p2).toNatClampNeg)), (5, .int j16)]) S.1 S.2.1 dX7_joins_128 hl (k := 7) rfl rfl (by decide) rfl (fun ls hl => ?_)
                      refine lv_goto (tgt := 79) S.1 S.2.1 dX7_joins_131 (by decide) ?_
                      exact ih _ _ _ _ h _ _ _ (lv_sub hl [2, 3, 4, 5, 6, 7, 0] rfl) hW K
                    · replace h := (if_pos c26).symm.trans h
                      refine lv_iload S.1 S.2.1 dX7_joins_120 (lv_at hl 6 rfl) ?_
                      refine lv_goto (tgt := 127) S.1 S.2.1 dX7_joins_122 (by decide) ?_
                      obtain ⟨g27, h⟩ := ix_some h
                      refine fl_iast S hK hJ hA lM_6 sM_6 g27 hW dX7_joins_127 (fun H locs hW => ?_)
                      obtain ⟨M28, e29, h⟩ := lt_some h
                      rw [e29] at hW
                      clear e29
                      refine lv_iinc (v := x6 + (1 : Int32)) (lv' := [(6, .int (x6 + (1 : Int32))), (7, .int (Ml.1 6 ((7 : Int32) + x6).toNatClampNeg)), (0, .ref (ad 0)), (1, .int p1), (2, .int p2), (3, .int (M1.1 6 ((7 : Int32) + p1).toNatClampNeg)), (4, .int (M1.1 6 ((7 : Int32) + p2).toNatClampNeg)), (5, .int j16)]) S.1 S.2.1 dX7_joins_128 hl (k := 7) rfl rfl (by decide) rfl (fun ls hl => ?_)
                      refine lv_goto (tgt := 79) S.1 S.2.1 dX7_joins_131 (by decide) ?_
                      exact ih _ _ _ _ h _ _ _ (lv_sub hl [2, 3, 4, 5, 6, 7, 0] rfl) hW K
            obtain ⟨w18, M19, u35, h⟩ := b2_some h
            refine L79 50000 _ _ _ _ u35 _ _ _ (lv_sub hl [2, 3, 4, 5, 6, 1, 0] rfl) hW (fun H locs ls hl hW => ?_)
            clear L79
            refine lv_aload_n S.1 S.2.1 dX7_joins_134 rfl (lv_at hl 0 rfl) ?_
            refine lv_iload_n S.1 S.2.1 dX7_joins_135 rfl (lv_at hl 1 rfl) ?_
            obtain ⟨v34, u33, h⟩ := bP_some h
            refine fl_doneI (fl_runV S hK hN (kX7_ageOf l hJ p1 M19 v34 u33) (cwV 1 S.2.2.2.2 (gV q_378 q_379 q_380 q_291 q_377) rfl rfl rfl (by decide +kernel) ⟨Nat.le_of_ble_eq_true rfl, Nat.le_of_ble_eq_true rfl⟩) (ci := 7) rfl lM_0 sM_0 rfl hl.1 rfl (Nat.le_of_ble_eq_true rfl) dX7_joins_136 ⟨Nat.zero_le _, Nat.zero_le _⟩ hW) hA hW.2 (fun H locs hW => ?_)
            obtain ⟨rfl, rfl⟩ := s2 h
            exact fl_iret S.1 S.2.1 hr hlocks hW dX7_joins_139
          clear h
          have h := u36
          clear u36
          refine lv_icmp_ge (tgt := 72) S.1 S.2.1 dX7_joins_65 (by decide) (fun c15 => ?_) (fun c15 => ?_)
          · replace h := (if_pos c15).symm.trans h
            refine lv_iload S.1 S.2.1 dX7_joins_72 (lv_at hl 0 rfl) ?_
            obtain rfl := s1 h
            exact J17 _ _ _ (lv_sub hl [2, 3, 4, 1, 0] rfl) hW
          · replace h := (if_neg c15).symm.trans h
            refine lv_iload_n S.1 S.2.1 dX7_joins_68 rfl (lv_at hl 1 rfl) ?_
            refine lv_goto (tgt := 74) S.1 S.2.1 dX7_joins_69 (by decide) ?_
            obtain rfl := s1 h
            exact J17 _ _ _ (lv_sub hl [2, 3, 4, 1, 0] rfl) hW
        · replace h := (if_pos c12).symm.trans h
          refine lv_bipush (v := (-2 : Int32)) S.1 S.2.1 dX7_joins_55 (by decide) ?_
          obtain ⟨rfl, rfl⟩ := s2 h
          exact fl_iret S.1 S.2.1 hr hlocks hW dX7_joins_57
      · replace h := (if_pos c9).symm.trans h
        refine lv_iconst (v := (-1 : Int32)) S.1 S.2.1 dX7_joins_26 (by decide) ?_
        obtain ⟨rfl, rfl⟩ := s2 h
        exact fl_iret S.1 S.2.1 hr hlocks hW dX7_joins_27
def fX7_builds_L70 (p1 : Int32) (v7 : Int32) : Nat → Int32 → Option (Int32)
  | 0, _ => none
  | n + 1, x5 => if (6 : Int32) ≤ x5 then (some x5) else (bP (fX7_has (v7 &&& (((1 : Int32) <<< (p1 &&& 31)) ^^^ (-1 : Int32))) x5) (fun (v19 : Int32) => if v19 = 0 then (fX7_builds_L70 p1 v7 n (x5 + (1 : Int32))) else (some x5)))
def fX7_builds_L96 (p1 : Int32) (v7 : Int32) (w16 : Int32) : Nat → Int32 → Mm → Option (Int32 × Mm)
  | 0, _, _ => none
  | n + 1, x6, Ml => if (6 : Int32) ≤ x6 then (some (x6, Ml)) else (bP (fX7_has (v7 &&& (((1 : Int32) <<< (p1 &&& 31)) ^^^ (-1 : Int32))) x6) (fun (v25 : Int32) => if v25 = 0 then (ix ((7 : Int32) + x6) 21 (ix ((7 : Int32) + x6) 21 (lt (wI Ml 6 ((7 : Int32) + x6).toNatClampNeg (Ml.1 6 ((7 : Int32) + x6).toNatClampNeg)) (fun (M29 : Mm) => fX7_builds_L96 p1 v7 w16 n (x6 + (1 : Int32)) M29)))) else (ix ((7 : Int32) + x6) 21 (lt (wI Ml 6 ((7 : Int32) + x6).toNatClampNeg w16) (fun (M32 : Mm) => fX7_builds_L96 p1 v7 w16 n (x6 + (1 : Int32)) M32)))))
def fX7_builds_B45 (p1 : Int32) (M1 : Mm) (v7 : Int32) : Option (Int32 × Mm) :=
  bP (fX7_notes M1) (fun (M12 : Mm) => ix ((1 : Int32) + p1) 21 (lt (wI M12 6 ((1 : Int32) + p1).toNatClampNeg (0 : Int32)) (fun (M14 : Mm) => bP (fX7_builds_L70 p1 v7 50000 (0 : Int32)) (fun (w16 : Int32) => b2 (fX7_builds_L96 p1 v7 w16 50000 (0 : Int32) M14) (fun (w21 : Int32) (M22 : Mm) => ix ((7 : Int32) + p1) 21 (lt (wI M22 6 ((7 : Int32) + p1).toNatClampNeg p1) (fun (M35 : Mm) => some (M1.1 6 ((1 : Int32) + p1).toNatClampNeg, M35))))))))
def fX7_builds (p1 : Int32) (M : Mm) : Option (Int32 × Mm) :=
  lt (wI M 0 0 (0 : Int32)) (fun (M1 : Mm) => bP (fX7_isRoom p1 M1) (fun (v4 : Int32) => if v4 = 0 then (some ((-1 : Int32), M1)) else (bP (fX7_joinedWith p1 M1) (fun (v7 : Int32) => ix ((1 : Int32) + p1) 21 (if (M1.1 6 ((1 : Int32) + p1).toNatClampNeg) = 0 then (bP (fX7_ones v7) (fun (v40 : Int32) => if v40 = (1 : Int32) then (some ((-2 : Int32), M1)) else (fX7_builds_B45 p1 M1 v7 ))) else (fX7_builds_B45 p1 M1 v7 ))))))
set_option maxHeartbeats 4000000 in
set_option maxRecDepth 100000 in
theorem kX7_builds (l : Launch) {D : va_G} {cy : Nat → ClassId} {ad : Nat → Nat} (hJ : Inj ad 15)  (p1 : Int32) (M : Mm) (r : Int32) (M' : Mm) (h : fX7_builds p1 M = some (r, M')) : Met l yX7_builds vX7_builds ({ frames := 2, cells := 0, slots := 0, locals := 43 } : Room) (PcF [.ref (ad 0), .int p1] D cy ad kdV shM rfM 15 M) (QcI r D cy ad kdV shM rfM 15 M') 0 0 (AV ad 15) := by
  refine Met.ofW (cc := cX7_builds) (maxL := 7) (ret := (some .int)) (by decide) rfl ?_
  intro p e s m args below meth c s₁ B hml hv
  obtain ⟨rfl, hP, hK, hN⟩ := hv
  have hr := B.returns
  have hlocks := B.notSynchronized
  have S : CallFix p m c cX7_builds 7 s ([.ref (ad 0), .int p1] : List Value).toArray vX7_builds RX7 := ⟨B.exec, B.bytes, hml, findClass_of_methodNamed B.named, atoms_spec (ws := vX7_builds) B.pre⟩
  have hq : ∀ w ∈ GW, w.before ([.ref (ad 0), .int p1] : List Value).toArray s = true := fun w h => S.2.2.2.2 w (List.mem_cons_of_mem _ h)
  have hA : ∀ k, k < 15 → AV ad 15 (ad k) := fun k hk => ⟨k, hk, rfl⟩
  have hW : WSt D cy ad kdV shM rfM 15 (AV ad 15) M s.heap s.heap [] := ⟨hP, va_S.rf⟩
  clear hP
  have iX7 : ∀ w ∈ wsX70, w ∈ vX7_builds := fun w h => List.mem_cons_of_mem _ (inX7 w h)
  have hl := lv_entry ([.ref (ad 0), .int p1]) (n := 7) (Nat.le_of_ble_eq_true rfl)
  rw [lg_entry_eq]
  generalize (lg_sl ([.ref (ad 0), .int p1]) ++ List.replicate (7 - (lg_sl ([.ref (ad 0), .int p1])).length) Slot.unset).toArray = ls at hl ⊢
  have hl : lv_has ls 7 [(0, .ref (ad 0)), (1, .int p1)] := hl
  rw [fX7_builds] at h
  refine lv_aload_n S.1 S.2.1 dX7_builds_0 rfl (lv_at hl 0 rfl) ?_
  refine lv_iconst (v := (0 : Int32)) S.1 S.2.1 dX7_builds_1 (by decide) ?_
  refine fl_put S hK hJ hA tyX7 tyX7_ok nmX7 iX7 rfl lM_0 sM_0 0 (by decide) (hq _ q_287) (fun _ h9 => h9) rfl (ty := .int) rfl rfl rfl (wI M 0 0 (0 : Int32)) (by decide) (fvs_setI _ _ _ _ _ _ _ rfl) (fun j _ hj => cof_wI_ne hj) hW dX7_builds_2 (fun H locs hW => ?_)
  obtain ⟨M1, e2, h⟩ := lt_some h
  rw [e2] at hW
  clear e2
  refine lv_aload_n S.1 S.2.1 dX7_builds_5 rfl (lv_at hl 0 rfl) ?_
  refine lv_iload_n S.1 S.2.1 dX7_builds_6 rfl (lv_at hl 1 rfl) ?_
  obtain ⟨v4, u3, h⟩ := bP_some h
  refine fl_doneI (fl_runV S hK hN (kX7_isRoom l hJ p1 M1 v4 u3) (cwV 1 S.2.2.2.2 (gV q_374 q_375 q_376 q_291 q_373) rfl rfl rfl (by decide +kernel) ⟨Nat.le_of_ble_eq_true rfl, Nat.le_of_ble_eq_true rfl⟩) (ci := 7) rfl lM_0 sM_0 rfl hl.1 rfl (Nat.le_of_ble_eq_true rfl) dX7_builds_7 ⟨Nat.zero_le _, Nat.zero_le _⟩ hW) hA hW.2 (fun H locs hW => ?_)
  refine lv_if_ne (tgt := 15) S.1 S.2.1 dX7_builds_10 (by decide) (fun c5 => ?_) (fun c5 => ?_)
  · replace h := (if_neg c5).symm.trans h
    refine lv_aload_n S.1 S.2.1 dX7_builds_15 rfl (lv_at hl 0 rfl) ?_
    refine lv_iload_n S.1 S.2.1 dX7_builds_16 rfl (lv_at hl 1 rfl) ?_
    obtain ⟨v7, u6, h⟩ := bP_some h
    refine fl_doneI (fl_runV S hK hN (kX7_joinedWith l hJ p1 M1 v7 u6) (cwV 1 S.2.2.2.2 (gV q_354 q_355 q_356 q_291 q_353) rfl rfl rfl (by decide +kernel) ⟨Nat.le_of_ble_eq_true rfl, Nat.le_of_ble_eq_true rfl⟩) (ci := 7) rfl lM_0 sM_0 rfl hl.1 rfl (Nat.le_of_ble_eq_true rfl) dX7_builds_17 ⟨Nat.zero_le _, Nat.zero_le _⟩ hW) hA hW.2 (fun H locs hW => ?_)
    refine lv_istore_n (lv' := [(2, .int v7), (0, .ref (ad 0)), (1, .int p1)]) S.1 S.2.1 dX7_builds_20 rfl hl (by decide) rfl (fun ls hl => ?_)
    refine lv_aload_n S.1 S.2.1 dX7_builds_21 rfl (lv_at hl 1 rfl) ?_
    refine fl_get S hK iX7 rfl lM_0 sM_0 14 (by decide) (hq _ q_327) (fun _ h9 => h9) (fvs_R rfl rfl) hW dX7_builds_22 ?_
    refine lv_iconst (v := (1 : Int32)) S.1 S.2.1 dX7_builds_25 (by decide) ?_
    refine lv_iload_n S.1 S.2.1 dX7_builds_26 rfl (lv_at hl 2 rfl) ?_
    refine lv_iadd S.1 S.2.1 dX7_builds_27 ?_
    obtain ⟨g8, h⟩ := ix_some h
    refine fl_iald S hK lM_6 sM_6 g8 hW dX7_builds_28 ?_
    refine lv_istore_n (lv' := [(3, .int (M1.1 6 ((1 : Int32) + p1).toNatClampNeg)), (2, .int v7), (0, .ref (ad 0)), (1, .int p1)]) S.1 S.2.1 dX7_builds_29 rfl hl (by decide) rfl (fun ls hl => ?_)
    refine lv_iload_n S.1 S.2.1 dX7_builds_30 rfl (lv_at hl 0 rfl) ?_
    have J10 : fX7_builds_B45 p1 M1 v7  = some (r, M') → ∀ (H : Heap) (locs : List Loc) (ls : Array Slot), lv_has ls 7 [(0, .ref (ad 0)), (1, .int p1), (2, .int v7), (3, .int (M1.1 6 ((1 : Int32) + p1).toNatClampNeg))] → WSt D cy ad kdV shM rfM 15 (AV ad 15) M1 s.heap H locs → W p l e (headSpec vX7_builds ({ frames := 2, cells := 0, slots := 0, locals := 43 } : Room)).room s m ([.ref (ad 0), .int p1] : List Value).toArray below meth c H locs 0 0 (MQ below (QcI r D cy ad kdV shM rfM 15 M') ([.ref (ad 0), .int p1] : List Value).toArray s 0 0 (AV ad 15)) (F0 m 45 ls []) := by
      intro  h H locs ls hl hW
      rw [fX7_builds_B45] at h
      refine lv_aload_n S.1 S.2.1 dX7_builds_45 rfl (lv_at hl 0 rfl) ?_
      obtain ⟨M12, u11, h⟩ := bP_some h
      refine fl_doneV (fl_runV S hK hN (kX7_notes l hJ M1 M12 u11) (cwV 0 S.2.2.2.2 (gV q_418 q_419 q_420 q_291 q_417) rfl rfl rfl (by decide +kernel) ⟨Nat.le_of_ble_eq_true rfl, Nat.le_of_ble_eq_true rfl⟩) (ci := 7) rfl lM_0 sM_0 rfl hl.1 rfl (Nat.le_of_ble_eq_true rfl) dX7_builds_46 ⟨Nat.zero_le _, Nat.zero_le _⟩ hW) hA hW.2 (fun H locs hW => ?_)
      refine lv_aload_n S.1 S.2.1 dX7_builds_49 rfl (lv_at hl 0 rfl) ?_
      refine fl_get S hK iX7 rfl lM_0 sM_0 14 (by decide) (hq _ q_327) (fun _ h9 => h9) (fvs_R rfl rfl) hW dX7_builds_50 ?_
      refine lv_iconst (v := (1 : Int32)) S.1 S.2.1 dX7_builds_53 (by decide) ?_
      refine lv_iload_n S.1 S.2.1 dX7_builds_54 rfl (lv_at hl 1 rfl) ?_
      refine lv_iadd S.1 S.2.1 dX7_builds_55 ?_
      refine lv_iconst (v := (0 : Int32)) S.1 S.2.1 dX7_builds_56 (by decide) ?_
      obtain ⟨g13, h⟩ := ix_some h
      refine fl_iast S hK hJ hA lM_6 sM_6 g13 hW dX7_builds_57 (fun H locs hW => ?_)
      obtain ⟨M14, e15, h⟩ := lt_some h
      rw [e15] at hW
      clear e15
      refine lv_iload_n S.1 S.2.1 dX7_builds_58 rfl (lv_at hl 2 rfl) ?_
      refine lv_iconst (v := (1 : Int32)) S.1 S.2.1 dX7_builds_59 (by decide) ?_
      refine lv_iload_n S.1 S.2.1 dX7_builds_60 rfl (lv_at hl 1 rfl) ?_
      refine lv_ishl S.1 S.2.1 dX7_builds_61 ?_
      refine lv_iconst (v := (-1 : Int32)) S.1 S.2.1 dX7_builds_62 (by decide) ?_
      refine lv_ixor S.1 S.2.1 dX7_builds_63 ?_
      refine lv_iand S.1 S.2.1 dX7_builds_64 ?_
      refine lv_istore (lv' := [(4, .int (v7 &&& (((1 : Int32) <<< (p1 &&& 31)) ^^^ (-1 : Int32)))), (0, .ref (ad 0)), (1, .int p1), (2, .int v7), (3, .int (M1.1 6 ((1 : Int32) + p1).toNatClampNeg))]) S.1 S.2.1 dX7_builds_65 hl (by decide) rfl (fun ls hl => ?_)
      refine lv_iconst (v := (0 : Int32)) S.1 S.2.1 dX7_builds_67 (by decide) ?_
      refine lv_istore (lv' := [(5, .int (0 : Int32)), (4, .int (v7 &&& (((1 : Int32) <<< (p1 &&& 31)) ^^^ (-1 : Int32)))), (0, .ref (ad 0)), (1, .int p1), (2, .int v7), (3, .int (M1.1 6 ((1 : Int32) + p1).toNatClampNeg))]) S.1 S.2.1 dX7_builds_68 hl (by decide) rfl (fun ls hl => ?_)
      have L70 : ∀ (n : Nat) (x5 : Int32) (w16 : Int32), fX7_builds_L70 p1 v7 n x5 = some w16 → ∀ (H : Heap) (locs : List Loc) (ls : Array Slot), lv_has ls 7 [(0, .ref (ad 0)), (1, .int p1), (2, .int v7), (3, .int (M1.1 6 ((1 : Int32) + p1).toNatClampNeg)), (4, .int (v7 &&& (((1 : Int32) <<< (p1 &&& 31)) ^^^ (-1 : Int32)))), (5, .int x5)] → WSt D cy ad kdV shM rfM 15 (AV ad 15) M14 s.heap H locs → (∀ (H : Heap) (locs : List Loc) (ls : Array Slot), lv_has ls 7 [(0, .ref (ad 0)), (1, .int p1), (2, .int v7), (3, .int (M1.1 6 ((1 : Int32) + p1).toNatClampNeg)), (4, .int (v7 &&& (((1 : Int32) <<< (p1 &&& 31)) ^^^ (-1 : Int32)))), (5, .int w16)] → WSt D cy ad kdV shM rfM 15 (AV ad 15) M14 s.heap H locs → W p l e (headSpec vX7_builds ({ frames := 2, cells := 0, slots := 0, locals := 43 } : Room)).room s m ([.ref (ad 0), .int p1] : List Value).toArray below meth c H locs 0 0 (MQ below (QcI r D cy ad kdV shM rfM 15 M') ([.ref (ad 0), .int p1] : List Value).toArray s 0 0 (AV ad 15)) (F0 m 93 ls [])) → W p l e (headSpec vX7_builds ({ frames := 2, cells := 0, slots := 0, locals := 43 } : Room)).room s m ([.ref (ad 0), .int p1] : List Value).toArray below meth c H locs 0 0 (MQ below (QcI r D cy ad kdV shM rfM 15 M') ([.ref (ad 0), .int p1] : List Value).toArray s 0 0 (AV ad 15)) (F0 m 70 ls []) := by
        intro n
        induction n with
        | zero => intro x5 w16 h; cases h
        | succ n ih =>
          intro x5 w16 h H locs ls hl hW K
          rw [fX7_builds_L70] at h
          refine lv_iload S.1 S.2.1 dX7_builds_70 (lv_at hl 5 rfl) ?_
          refine lv_bipush (v := (6 : Int32)) S.1 S.2.1 dX7_builds_72 (by decide) ?_
          refine lv_icmp_ge (tgt := 93) S.1 S.2.1 dX7_builds_74 (by decide) (fun c17 => ?_) (fun c17 => ?_)
          · replace h := (if_pos c17).symm.trans h
            obtain rfl := s1 h
            exact K _ _ _ hl hW
          · replace h := (if_neg c17).symm.trans h
            refine lv_iload S.1 S.2.1 dX7_builds_77 (lv_at hl 4 rfl) ?_
            refine lv_iload S.1 S.2.1 dX7_builds_79 (lv_at hl 5 rfl) ?_
            obtain ⟨v19, u18, h⟩ := bP_some h
            refine fl_doneP (fl_runS S (kX7_has l (v7 &&& (((1 : Int32) <<< (p1 &&& 31)) ^^^ (-1 : Int32))) x5 v19 u18) (va_cwS 2 S.2.2.2.2 (gS q_348 q_349 q_291 q_347) rfl rfl rfl (by decide +kernel) ⟨Nat.le_of_ble_eq_true rfl, Nat.le_of_ble_eq_true rfl⟩) rfl hl.1 rfl (Nat.le_of_ble_eq_true rfl) dX7_builds_81 ⟨Nat.zero_le _, Nat.zero_le _⟩) hW (fun H locs hW => ?_)
            refine lv_if_ne (tgt := 93) S.1 S.2.1 dX7_builds_84 (by decide) (fun c20 => ?_) (fun c20 => ?_)
            · replace h := (if_neg c20).symm.trans h
              obtain rfl := s1 h
              exact K _ _ _ hl hW
            · replace h := (if_pos c20).symm.trans h
              refine lv_iinc (v := x5 + (1 : Int32)) (lv' := [(5, .int (x5 + (1 : Int32))), (0, .ref (ad 0)), (1, .int p1), (2, .int v7), (3, .int (M1.1 6 ((1 : Int32) + p1).toNatClampNeg)), (4, .int (v7 &&& (((1 : Int32) <<< (p1 &&& 31)) ^^^ (-1 : Int32))))]) S.1 S.2.1 dX7_builds_87 hl (k := 5) rfl rfl (by decide) rfl (fun ls hl => ?_)
              refine lv_goto (tgt := 70) S.1 S.2.1 dX7_builds_90 (by decide) ?_
              exact ih _ _ h _ _ _ (lv_sub hl [1, 2, 3, 4, 5, 0] rfl) hW K
      obtain ⟨w16, u38, h⟩ := bP_some h
      refine L70 50000 _ _ u38 _ _ _ (lv_sub hl [2, 3, 4, 5, 1, 0] rfl) hW (fun H locs ls hl hW => ?_)
      clear L70
      refine lv_iconst (v := (0 : Int32)) S.1 S.2.1 dX7_builds_93 (by decide) ?_
      refine lv_istore (lv' := [(6, .int (0 : Int32)), (0, .ref (ad 0)), (1, .int p1), (2, .int v7), (3, .int (M1.1 6 ((1 : Int32) + p1).toNatClampNeg)), (4, .int (v7 &&& (((1 : Int32) <<< (p1 &&& 31)) ^^^ (-1 : Int32)))), (5, .int w16)]) S.1 S.2.1 dX7_builds_94 hl (by decide) rfl (fun ls hl => ?_)
      have L96 : ∀ (n : Nat) (x6 : Int32) (Ml : Mm) (w21 : Int32) (M22 : Mm), fX7_builds_L96 p1 v7 w16 n x6 Ml = some (w21, M22) → ∀ (H : Heap) (locs : List Loc) (ls : Array Slot), lv_has ls 7 [(0, .ref (ad 0)), (1, .int p1), (2, .int v7), (3, .int (M1.1 6 ((1 : Int32) + p1).toNatClampNeg)), (4, .int (v7 &&& (((1 : Int32) <<< (p1 &&& 31)) ^^^ (-1 : Int32)))), (5, .int w16), (6, .int x6)] → WSt D cy ad kdV shM rfM 15 (AV ad 15) Ml s.heap H locs → (∀ (H : Heap) (locs : List Loc) (ls : Array Slot), lv_has ls 7 [(0, .ref (ad 0)), (1, .int p1), (2, .int v7), (3, .int (M1.1 6 ((1 : Int32) + p1).toNatClampNeg)), (4, .int (v7 &&& (((1 : Int32) <<< (p1 &&& 31)) ^^^ (-1 : Int32)))), (5, .int w16), (6, .int w21)] → WSt D cy ad kdV shM rfM 15 (AV ad 15) M22 s.heap H locs → W p l e (headSpec vX7_builds ({ frames := 2, cells := 0, slots := 0, locals := 43 } : Room)).room s m ([.ref (ad 0), .int p1] : List Value).toArray below meth c H locs 0 0 (MQ below (QcI r D cy ad kdV shM rfM 15 M') ([.ref (ad 0), .int p1] : List Value).toArray s 0 0 (AV ad 15)) (F0 m 144 ls [])) → W p l e (headSpec vX7_builds ({ frames := 2, cells := 0, slots := 0, locals := 43 } : Room)).room s m ([.ref (ad 0), .int p1] : List Value).toArray below meth c H locs 0 0 (MQ below (QcI r D cy ad kdV shM rfM 15 M') ([.ref (ad 0), .int p1] : List Value).toArray s 0 0 (AV ad 15)) (F0 m 96 ls []) := by
        intro n
        induction n with
        | zero => intro x6 Ml w21 M22 h; cases h
        | succ n ih =>
          intro x6 Ml w21 M22 h H locs ls hl hW K
          rw [fX7_builds_L96] at h
          refine lv_iload S.1 S.2.1 dX7_builds_96 (lv_at hl 6 rfl) ?_
          refine lv_bipush (v := (6 : Int32)) S.1 S.2.1 dX7_builds_98 (by decide) ?_
          refine lv_icmp_ge (tgt := 144) S.1 S.2.1 dX7_builds_100 (by decide) (fun c23 => ?_) (fun c23 => ?_)
          · replace h := (if_pos c23).symm.trans h
            obtain ⟨rfl, rfl⟩ := s2 h
            exact K _ _ _ hl hW
          · replace h := (if_neg c23).symm.trans h
            refine lv_aload_n S.1 S.2.1 dX7_builds_103 rfl (lv_at hl 0 rfl) ?_
            refine fl_get S hK iX7 rfl lM_0 sM_0 14 (by decide) (hq _ q_327) (fun _ h9 => h9) (fvs_R rfl rfl) hW dX7_builds_104 ?_
            refine lv_bipush (v := (7 : Int32)) S.1 S.2.1 dX7_builds_107 (by decide) ?_
            refine lv_iload S.1 S.2.1 dX7_builds_109 (lv_at hl 6 rfl) ?_
            refine lv_iadd S.1 S.2.1 dX7_builds_111 ?_
            refine lv_iload S.1 S.2.1 dX7_builds_112 (lv_at hl 4 rfl) ?_
            refine lv_iload S.1 S.2.1 dX7_builds_114 (lv_at hl 6 rfl) ?_
            obtain ⟨v25, u24, h⟩ := bP_some h
            refine fl_doneP (fl_runS S (kX7_has l (v7 &&& (((1 : Int32) <<< (p1 &&& 31)) ^^^ (-1 : Int32))) x6 v25 u24) (va_cwS 2 S.2.2.2.2 (gS q_348 q_349 q_291 q_347) rfl rfl rfl (by decide +kernel) ⟨Nat.le_of_ble_eq_true rfl, Nat.le_of_ble_eq_true rfl⟩) rfl hl.1 rfl (Nat.le_of_ble_eq_true rfl) dX7_builds_116 ⟨Nat.zero_le _, Nat.zero_le _⟩) hW (fun H locs hW => ?_)
            refine lv_if_eq (tgt := 127) S.1 S.2.1 dX7_builds_119 (by decide) (fun c26 => ?_) (fun c26 => ?_)
            · replace h := (if_pos c26).symm.trans h
              refine lv_aload_n S.1 S.2.1 dX7_builds_127 rfl (lv_at hl 0 rfl) ?_
              refine fl_get S hK iX7 rfl lM_0 sM_0 14 (by decide) (hq _ q_327) (fun _ h9 => h9) (fvs_R rfl rfl) hW dX7_builds_128 ?_
              refine lv_bipush (v := (7 : Int32)) S.1 S.2.1 dX7_builds_131 (by decide) ?_
              refine lv_iload S.1 S.2.1 dX7_builds_133 (lv_at hl 6 rfl) ?_
              refine lv_iadd S.1 S.2.1 dX7_builds_135 ?_
              obtain ⟨g27, h⟩ := ix_some h
              refine fl_iald S hK lM_6 sM_6 g27 hW dX7_builds_136 ?_
              obtain ⟨g28, h⟩ := ix_some h
              refine fl_iast S hK hJ hA lM_6 sM_6 g28 hW dX7_builds_137 (fun H locs hW => ?_)
              obtain ⟨M29, e30, h⟩ := lt_some h
              rw [e30] at hW
              clear e30
              refine lv_iinc (v := x6 + (1 : Int32)) (lv' := [(6, .int (x6 + (1 : Int32))), (0, .ref (ad 0)), (1, .int p1), (2, .int v7), (3, .int (M1.1 6 ((1 : Int32) + p1).toNatClampNeg)), (4, .int (v7 &&& (((1 : Int32) <<< (p1 &&& 31)) ^^^ (-1 : Int32)))), (5, .int w16)]) S.1 S.2.1 dX7_builds_138 hl (k := 6) rfl rfl (by decide) rfl (fun ls hl => ?_)
              refine lv_goto (tgt := 96) S.1 S.2.1 dX7_builds_141 (by decide) ?_
              exact ih _ _ _ _ h _ _ _ (lv_sub hl [1, 2, 3, 4, 5, 6, 0] rfl) hW K
            · replace h := (if_neg c26).symm.trans h
              refine lv_iload S.1 S.2.1 dX7_builds_122 (lv_at hl 5 rfl) ?_
              refine lv_goto (tgt := 137) S.1 S.2.1 dX7_builds_124 (by decide) ?_
              obtain ⟨g31, h⟩ := ix_some h
              refine fl_iast S hK hJ hA lM_6 sM_6 g31 hW dX7_builds_137 (fun H locs hW => ?_)
              obtain ⟨M32, e33, h⟩ := lt_some h
              rw [e33] at hW
              clear e33
              refine lv_iinc (v := x6 + (1 : Int32)) (lv' := [(6, .int (x6 + (1 : Int32))), (0, .ref (ad 0)), (1, .int p1), (2, .int v7), (3, .int (M1.1 6 ((1 : Int32) + p1).toNatClampNeg)), (4, .int (v7 &&& (((1 : Int32) <<< (p1 &&& 31)) ^^^ (-1 : Int32)))), (5, .int w16)]) S.1 S.2.1 dX7_builds_138 hl (k := 6) rfl rfl (by decide) rfl (fun ls hl => ?_)
              refine lv_goto (tgt := 96) S.1 S.2.1 dX7_builds_141 (by decide) ?_
              exact ih _ _ _ _ h _ _ _ (lv_sub hl [1, 2, 3, 4, 5, 6, 0] rfl) hW K
      obtain ⟨w21, M22, u37, h⟩ := b2_some h
      refine L96 50000 _ _ _ _ u37 _ _ _ (lv_sub hl [1, 2, 3, 4, 5, 6, 0] rfl) hW (fun H locs ls hl hW => ?_)
      clear L96
      refine lv_aload_n S.1 S.2.1 dX7_builds_144 rfl (lv_at hl 0 rfl) ?_
      refine fl_get S hK iX7 rfl lM_0 sM_0 14 (by decide) (hq _ q_327) (fun _ h9 => h9) (fvs_R rfl rfl) hW dX7_builds_145 ?_
      refine lv_bipush (v := (7 : Int32)) S.1 S.2.1 dX7_builds_148 (by decide) ?_
      refine lv_iload_n S.1 S.2.1 dX7_builds_150 rfl (lv_at hl 1 rfl) ?_
      refine lv_iadd S.1 S.2.1 dX7_builds_151 ?_
      refine lv_iload_n S.1 S.2.1 dX7_builds_152 rfl (lv_at hl 1 rfl) ?_
      obtain ⟨g34, h⟩ := ix_some h
      refine fl_iast S hK hJ hA lM_6 sM_6 g34 hW dX7_builds_153 (fun H locs hW => ?_)
      obtain ⟨M35, e36, h⟩ := lt_some h
      rw [e36] at hW
      clear e36
      refine lv_iload_n S.1 S.2.1 dX7_builds_154 rfl (lv_at hl 3 rfl) ?_
      obtain ⟨rfl, rfl⟩ := s2 h
      exact fl_iret S.1 S.2.1 hr hlocks hW dX7_builds_155
    refine lv_if_ne (tgt := 45) S.1 S.2.1 dX7_builds_31 (by decide) (fun c9 => ?_) (fun c9 => ?_)
    · replace h := (if_neg c9).symm.trans h
      exact J10  h _ _ _ (lv_sub hl [2, 3, 1, 0] rfl) hW
    · replace h := (if_pos c9).symm.trans h
      refine lv_iload_n S.1 S.2.1 dX7_builds_34 rfl (lv_at hl 1 rfl) ?_
      obtain ⟨v40, u39, h⟩ := bP_some h
      refine fl_doneP (fl_runS S (kX7_ones l v7 v40 u39) (va_cwS 1 S.2.2.2.2 (gS q_351 q_352 q_291 q_350) rfl rfl rfl (by decide +kernel) ⟨Nat.le_of_ble_eq_true rfl, Nat.le_of_ble_eq_true rfl⟩) rfl hl.1 rfl (Nat.le_of_ble_eq_true rfl) dX7_builds_35 ⟨Nat.zero_le _, Nat.zero_le _⟩) hW (fun H locs hW => ?_)
      refine lv_iconst (v := (1 : Int32)) S.1 S.2.1 dX7_builds_38 (by decide) ?_
      refine lv_icmp_ne (tgt := 45) S.1 S.2.1 dX7_builds_39 (by decide) (fun c41 => ?_) (fun c41 => ?_)
      · replace h := (if_neg c41).symm.trans h
        exact J10  h _ _ _ (lv_sub hl [2, 3, 1, 0] rfl) hW
      · replace h := (if_pos c41).symm.trans h
        refine lv_bipush (v := (-2 : Int32)) S.1 S.2.1 dX7_builds_42 (by decide) ?_
        obtain ⟨rfl, rfl⟩ := s2 h
        exact fl_iret S.1 S.2.1 hr hlocks hW dX7_builds_44
  · replace h := (if_pos c5).symm.trans h
    refine lv_iconst (v := (-1 : Int32)) S.1 S.2.1 dX7_builds_13 (by decide) ?_
    obtain ⟨rfl, rfl⟩ := s2 h
    exact fl_iret S.1 S.2.1 hr hlocks hW dX7_builds_14
def fX7_undo_L27  : Nat → Int32 → Mm → Option (Int32 × Mm)
  | 0, _, _ => none
  | n + 1, x1, Ml => if (21 : Int32) ≤ x1 then (some (x1, Ml)) else (ix (((21 : Int32) * (Ml.1 0 18)) + x1) 210 (ix x1 21 (lt (wI Ml 6 (x1).toNatClampNeg (Ml.1 9 (((21 : Int32) * (Ml.1 0 18)) + x1).toNatClampNeg)) (fun (M11 : Mm) => fX7_undo_L27 n (x1 + (1 : Int32)) M11))))
def fX7_undo (M : Mm) : Option (Int32 × Mm) :=
  lt (wI M 0 0 (0 : Int32)) (fun (M1 : Mm) => if (M1.1 0 18) = 0 then (some ((-2 : Int32), M1)) else (lt (wI M1 0 18 ((M1.1 0 18) - (1 : Int32))) (fun (M4 : Mm) => b2 (fX7_undo_L27 50000 (0 : Int32) M4) (fun (w6 : Int32) (M7 : Mm) => some (M7.1 0 18, M7)))))
set_option maxHeartbeats 4000000 in
set_option maxRecDepth 100000 in
theorem kX7_undo (l : Launch) {D : va_G} {cy : Nat → ClassId} {ad : Nat → Nat} (hJ : Inj ad 15)   (M : Mm) (r : Int32) (M' : Mm) (h : fX7_undo M = some (r, M')) : Met l yX7_undo vX7_undo ({ frames := 0, cells := 0, slots := 0, locals := 0 } : Room) (PcF [.ref (ad 0)] D cy ad kdV shM rfM 15 M) (QcI r D cy ad kdV shM rfM 15 M') 0 0 (AV ad 15) := by
  refine Met.ofW (cc := cX7_undo) (maxL := 2) (ret := (some .int)) (by decide) rfl ?_
  intro p e s m args below meth c s₁ B hml hv
  obtain ⟨rfl, hP, hK, hN⟩ := hv
  have hr := B.returns
  have hlocks := B.notSynchronized
  have S : CallFix p m c cX7_undo 2 s ([.ref (ad 0)] : List Value).toArray vX7_undo RX7 := ⟨B.exec, B.bytes, hml, findClass_of_methodNamed B.named, atoms_spec (ws := vX7_undo) B.pre⟩
  have hq : ∀ w ∈ GW, w.before ([.ref (ad 0)] : List Value).toArray s = true := fun w h => S.2.2.2.2 w (List.mem_cons_of_mem _ h)
  have hA : ∀ k, k < 15 → AV ad 15 (ad k) := fun k hk => ⟨k, hk, rfl⟩
  have hW : WSt D cy ad kdV shM rfM 15 (AV ad 15) M s.heap s.heap [] := ⟨hP, va_S.rf⟩
  clear hP
  have iX7 : ∀ w ∈ wsX70, w ∈ vX7_undo := fun w h => List.mem_cons_of_mem _ (inX7 w h)
  have hl := lv_entry ([.ref (ad 0)]) (n := 2) (Nat.le_of_ble_eq_true rfl)
  rw [lg_entry_eq]
  generalize (lg_sl ([.ref (ad 0)]) ++ List.replicate (2 - (lg_sl ([.ref (ad 0)])).length) Slot.unset).toArray = ls at hl ⊢
  have hl : lv_has ls 2 [(0, .ref (ad 0))] := hl
  rw [fX7_undo] at h
  refine lv_aload_n S.1 S.2.1 dX7_undo_0 rfl (lv_at hl 0 rfl) ?_
  refine lv_iconst (v := (0 : Int32)) S.1 S.2.1 dX7_undo_1 (by decide) ?_
  refine fl_put S hK hJ hA tyX7 tyX7_ok nmX7 iX7 rfl lM_0 sM_0 0 (by decide) (hq _ q_287) (fun _ h9 => h9) rfl (ty := .int) rfl rfl rfl (wI M 0 0 (0 : Int32)) (by decide) (fvs_setI _ _ _ _ _ _ _ rfl) (fun j _ hj => cof_wI_ne hj) hW dX7_undo_2 (fun H locs hW => ?_)
  obtain ⟨M1, e2, h⟩ := lt_some h
  rw [e2] at hW
  clear e2
  refine lv_aload_n S.1 S.2.1 dX7_undo_5 rfl (lv_at hl 0 rfl) ?_
  refine fl_get S hK iX7 rfl lM_0 sM_0 18 (by decide) (hq _ q_329) (fun _ h9 => h9) (fvs_I rfl) hW dX7_undo_6 ?_
  refine lv_if_ne (tgt := 15) S.1 S.2.1 dX7_undo_9 (by decide) (fun c3 => ?_) (fun c3 => ?_)
  · replace h := (if_neg c3).symm.trans h
    refine lv_aload_n S.1 S.2.1 dX7_undo_15 rfl (lv_at hl 0 rfl) ?_
    refine lv_dup S.1 S.2.1 dX7_undo_16 rfl ?_
    refine fl_get S hK iX7 rfl lM_0 sM_0 18 (by decide) (hq _ q_329) (fun _ h9 => h9) (fvs_I rfl) hW dX7_undo_17 ?_
    refine lv_iconst (v := (1 : Int32)) S.1 S.2.1 dX7_undo_20 (by decide) ?_
    refine lv_isub S.1 S.2.1 dX7_undo_21 ?_
    refine fl_put S hK hJ hA tyX7 tyX7_ok nmX7 iX7 rfl lM_0 sM_0 18 (by decide) (hq _ q_329) (fun _ h9 => h9) rfl (ty := .int) rfl rfl rfl (wI M1 0 18 ((M1.1 0 18) - (1 : Int32))) (by decide) (fvs_setI _ _ _ _ _ _ _ rfl) (fun j _ hj => cof_wI_ne hj) hW dX7_undo_22 (fun H locs hW => ?_)
    obtain ⟨M4, e5, h⟩ := lt_some h
    rw [e5] at hW
    clear e5
    refine lv_iconst (v := (0 : Int32)) S.1 S.2.1 dX7_undo_25 (by decide) ?_
    refine lv_istore_n (lv' := [(1, .int (0 : Int32)), (0, .ref (ad 0))]) S.1 S.2.1 dX7_undo_26 rfl hl (by decide) rfl (fun ls hl => ?_)
    have L27 : ∀ (n : Nat) (x1 : Int32) (Ml : Mm) (w6 : Int32) (M7 : Mm), fX7_undo_L27 n x1 Ml = some (w6, M7) → ∀ (H : Heap) (locs : List Loc) (ls : Array Slot), lv_has ls 2 [(0, .ref (ad 0)), (1, .int x1)] → WSt D cy ad kdV shM rfM 15 (AV ad 15) Ml s.heap H locs → (∀ (H : Heap) (locs : List Loc) (ls : Array Slot), lv_has ls 2 [(0, .ref (ad 0)), (1, .int w6)] → WSt D cy ad kdV shM rfM 15 (AV ad 15) M7 s.heap H locs → W p l e (headSpec vX7_undo ({ frames := 0, cells := 0, slots := 0, locals := 0 } : Room)).room s m ([.ref (ad 0)] : List Value).toArray below meth c H locs 0 0 (MQ below (QcI r D cy ad kdV shM rfM 15 M') ([.ref (ad 0)] : List Value).toArray s 0 0 (AV ad 15)) (F0 m 59 ls [])) → W p l e (headSpec vX7_undo ({ frames := 0, cells := 0, slots := 0, locals := 0 } : Room)).room s m ([.ref (ad 0)] : List Value).toArray below meth c H locs 0 0 (MQ below (QcI r D cy ad kdV shM rfM 15 M') ([.ref (ad 0)] : List Value).toArray s 0 0 (AV ad 15)) (F0 m 27 ls []) := by
      intro n
      induction n with
      | zero => intro x1 Ml w6 M7 h; cases h
      | succ n ih =>
        intro x1 Ml w6 M7 h H locs ls hl hW K
        rw [fX7_undo_L27] at h
        refine lv_iload_n S.1 S.2.1 dX7_undo_27 rfl (lv_at hl 1 rfl) ?_
        refine lv_bipush (v := (21 : Int32)) S.1 S.2.1 dX7_undo_28 (by decide) ?_
        refine lv_icmp_ge (tgt := 59) S.1 S.2.1 dX7_undo_30 (by decide) (fun c8 => ?_) (fun c8 => ?_)
        · replace h := (if_pos c8).symm.trans h
          obtain ⟨rfl, rfl⟩ := s2 h
          exact K _ _ _ hl hW
        · replace h := (if_neg c8).symm.trans h
          refine lv_aload_n S.1 S.2.1 dX7_undo_33 rfl (lv_at hl 0 rfl) ?_
          refine fl_get S hK iX7 rfl lM_0 sM_0 14 (by decide) (hq _ q_327) (fun _ h9 => h9) (fvs_R rfl rfl) hW dX7_undo_34 ?_
          refine lv_iload_n S.1 S.2.1 dX7_undo_37 rfl (lv_at hl 1 rfl) ?_
          refine lv_aload_n S.1 S.2.1 dX7_undo_38 rfl (lv_at hl 0 rfl) ?_
          refine fl_get S hK iX7 rfl lM_0 sM_0 17 (by decide) (hq _ q_416) (fun _ h9 => h9) (fvs_R rfl rfl) hW dX7_undo_39 ?_
          refine lv_bipush (v := (21 : Int32)) S.1 S.2.1 dX7_undo_42 (by decide) ?_
          refine lv_aload_n S.1 S.2.1 dX7_undo_44 rfl (lv_at hl 0 rfl) ?_
          refine fl_get S hK iX7 rfl lM_0 sM_0 18 (by decide) (hq _ q_329) (fun _ h9 => h9) (fvs_I rfl) hW dX7_undo_45 ?_
          refine lv_imul S.1 S.2.1 dX7_undo_48 ?_
          refine lv_iload_n S.1 S.2.1 dX7_undo_49 rfl (lv_at hl 1 rfl) ?_
          refine lv_iadd S.1 S.2.1 dX7_undo_50 ?_
          obtain ⟨g9, h⟩ := ix_some h
          refine fl_iald S hK lM_9 sM_9 g9 hW dX7_undo_51 ?_
          obtain ⟨g10, h⟩ := ix_some h
          refine fl_iast S hK hJ hA lM_6 sM_6 g10 hW dX7_undo_52 (fun H locs hW => ?_)
          obtain ⟨M11, e12, h⟩ := lt_some h
          rw [e12] at hW
          clear e12
          refine lv_iinc (v := x1 + (1 : Int32)) (lv' := [(1, .int (x1 + (1 : Int32))), (0, .ref (ad 0))]) S.1 S.2.1 dX7_undo_53 hl (k := 1) rfl rfl (by decide) rfl (fun ls hl => ?_)
          refine lv_goto (tgt := 27) S.1 S.2.1 dX7_undo_56 (by decide) ?_
          exact ih _ _ _ _ h _ _ _ (lv_sub hl [1, 0] rfl) hW K
    obtain ⟨w6, M7, u13, h⟩ := b2_some h
    refine L27 50000 _ _ _ _ u13 _ _ _ (lv_sub hl [1, 0] rfl) hW (fun H locs ls hl hW => ?_)
    clear L27
    refine lv_aload_n S.1 S.2.1 dX7_undo_59 rfl (lv_at hl 0 rfl) ?_
    refine fl_get S hK iX7 rfl lM_0 sM_0 18 (by decide) (hq _ q_329) (fun _ h9 => h9) (fvs_I rfl) hW dX7_undo_60 ?_
    obtain ⟨rfl, rfl⟩ := s2 h
    exact fl_iret S.1 S.2.1 hr hlocks hW dX7_undo_63
  · replace h := (if_pos c3).symm.trans h
    refine lv_bipush (v := (-2 : Int32)) S.1 S.2.1 dX7_undo_12 (by decide) ?_
    obtain ⟨rfl, rfl⟩ := s2 h
    exact fl_iret S.1 S.2.1 hr hlocks hW dX7_undo_14
def fX7_fills (p1 : Int32) (M : Mm) : Option (Int32 × Mm) :=
  lt (wI M 0 0 (0 : Int32)) (fun (M1 : Mm) => bP (fX7_isChild p1 M1) (fun (v4 : Int32) => if v4 = 0 then (some ((-1 : Int32), M1)) else (bP (fX7_asNow M1) (fun (M7 : Mm) => b2 (fX7_filled M7) (fun (v9 : Int32) (M10 : Mm) => ix p1 6 (if (M10.1 14 (p1).toNatClampNeg) = (5 : Int32) then (some ((-9 : Int32), M10)) else (ix p1 6 (some (M10.1 14 (p1).toNatClampNeg, M10)))))))))
set_option maxHeartbeats 4000000 in
set_option maxRecDepth 100000 in
theorem kX7_fills (l : Launch) {D : va_G} {cy : Nat → ClassId} {ad : Nat → Nat} (hJ : Inj ad 15)  (p1 : Int32) (M : Mm) (r : Int32) (M' : Mm) (h : fX7_fills p1 M = some (r, M')) : Met l yX7_fills vX7_fills ({ frames := 4, cells := 0, slots := 0, locals := 87 } : Room) (PcF [.ref (ad 0), .int p1] D cy ad kdV shM rfM 15 M) (QcI r D cy ad kdV shM rfM 15 M') 0 0 (AV ad 15) := by
  refine Met.ofW (cc := cX7_fills) (maxL := 2) (ret := (some .int)) (by decide) rfl ?_
  intro p e s m args below meth c s₁ B hml hv
  obtain ⟨rfl, hP, hK, hN⟩ := hv
  have hr := B.returns
  have hlocks := B.notSynchronized
  have S : CallFix p m c cX7_fills 2 s ([.ref (ad 0), .int p1] : List Value).toArray vX7_fills RX7 := ⟨B.exec, B.bytes, hml, findClass_of_methodNamed B.named, atoms_spec (ws := vX7_fills) B.pre⟩
  have hq : ∀ w ∈ GW, w.before ([.ref (ad 0), .int p1] : List Value).toArray s = true := fun w h => S.2.2.2.2 w (List.mem_cons_of_mem _ h)
  have hA : ∀ k, k < 15 → AV ad 15 (ad k) := fun k hk => ⟨k, hk, rfl⟩
  have hW : WSt D cy ad kdV shM rfM 15 (AV ad 15) M s.heap s.heap [] := ⟨hP, va_S.rf⟩
  clear hP
  have iX7 : ∀ w ∈ wsX70, w ∈ vX7_fills := fun w h => List.mem_cons_of_mem _ (inX7 w h)
  have hl := lv_entry ([.ref (ad 0), .int p1]) (n := 2) (Nat.le_of_ble_eq_true rfl)
  rw [lg_entry_eq]
  generalize (lg_sl ([.ref (ad 0), .int p1]) ++ List.replicate (2 - (lg_sl ([.ref (ad 0), .int p1])).length) Slot.unset).toArray = ls at hl ⊢
  have hl : lv_has ls 2 [(0, .ref (ad 0)), (1, .int p1)] := hl
  rw [fX7_fills] at h
  refine lv_aload_n S.1 S.2.1 dX7_fills_0 rfl (lv_at hl 0 rfl) ?_
  refine lv_iconst (v := (0 : Int32)) S.1 S.2.1 dX7_fills_1 (by decide) ?_
  refine fl_put S hK hJ hA tyX7 tyX7_ok nmX7 iX7 rfl lM_0 sM_0 0 (by decide) (hq _ q_287) (fun _ h9 => h9) rfl (ty := .int) rfl rfl rfl (wI M 0 0 (0 : Int32)) (by decide) (fvs_setI _ _ _ _ _ _ _ rfl) (fun j _ hj => cof_wI_ne hj) hW dX7_fills_2 (fun H locs hW => ?_)
  obtain ⟨M1, e2, h⟩ := lt_some h
  rw [e2] at hW
  clear e2
  refine lv_aload_n S.1 S.2.1 dX7_fills_5 rfl (lv_at hl 0 rfl) ?_
  refine lv_iload_n S.1 S.2.1 dX7_fills_6 rfl (lv_at hl 1 rfl) ?_
  obtain ⟨v4, u3, h⟩ := bP_some h
  refine fl_doneI (fl_runV S hK hN (kX7_isChild l hJ p1 M1 v4 u3) (cwV 1 S.2.2.2.2 (gV q_382 q_383 q_384 q_291 q_381) rfl rfl rfl (by decide +kernel) ⟨Nat.le_of_ble_eq_true rfl, Nat.le_of_ble_eq_true rfl⟩) (ci := 7) rfl lM_0 sM_0 rfl hl.1 rfl (Nat.le_of_ble_eq_true rfl) dX7_fills_7 ⟨Nat.zero_le _, Nat.zero_le _⟩ hW) hA hW.2 (fun H locs hW => ?_)
  refine lv_if_ne (tgt := 15) S.1 S.2.1 dX7_fills_10 (by decide) (fun c5 => ?_) (fun c5 => ?_)
  · replace h := (if_neg c5).symm.trans h
    refine lv_aload_n S.1 S.2.1 dX7_fills_15 rfl (lv_at hl 0 rfl) ?_
    obtain ⟨M7, u6, h⟩ := bP_some h
    refine fl_doneV (fl_runV S hK hN (kX7_asNow l hJ M1 M7 u6) (cwV 0 S.2.2.2.2 (gV q_409 q_410 q_411 q_291 q_408) rfl rfl rfl (by decide +kernel) ⟨Nat.le_of_ble_eq_true rfl, Nat.le_of_ble_eq_true rfl⟩) (ci := 7) rfl lM_0 sM_0 rfl hl.1 rfl (Nat.le_of_ble_eq_true rfl) dX7_fills_16 ⟨Nat.zero_le _, Nat.zero_le _⟩ hW) hA hW.2 (fun H locs hW => ?_)
    refine lv_aload_n S.1 S.2.1 dX7_fills_19 rfl (lv_at hl 0 rfl) ?_
    obtain ⟨v9, M10, u8, h⟩ := b2_some h
    refine fl_doneI (fl_runV S hK hN (kX7_filled l hJ M7 v9 M10 u8) (cwV 0 S.2.2.2.2 (gV q_413 q_414 q_415 q_291 q_412) rfl rfl rfl (by decide +kernel) ⟨Nat.le_of_ble_eq_true rfl, Nat.le_of_ble_eq_true rfl⟩) (ci := 7) rfl lM_0 sM_0 rfl hl.1 rfl (Nat.le_of_ble_eq_true rfl) dX7_fills_20 ⟨Nat.zero_le _, Nat.zero_le _⟩ hW) hA hW.2 (fun H locs hW => ?_)
    refine lv_pop S.1 S.2.1 dX7_fills_23 rfl ?_
    refine lv_aload_n S.1 S.2.1 dX7_fills_24 rfl (lv_at hl 0 rfl) ?_
    refine fl_get S hK iX7 rfl lM_0 sM_0 24 (by decide) (hq _ q_407) (fun _ h9 => h9) (fvs_R rfl rfl) hW dX7_fills_25 ?_
    refine lv_iload_n S.1 S.2.1 dX7_fills_28 rfl (lv_at hl 1 rfl) ?_
    obtain ⟨g11, h⟩ := ix_some h
    refine fl_iald S hK lM_14 sM_14 g11 hW dX7_fills_29 ?_
    refine lv_iconst (v := (5 : Int32)) S.1 S.2.1 dX7_fills_30 (by decide) ?_
    refine lv_icmp_ne (tgt := 39) S.1 S.2.1 dX7_fills_31 (by decide) (fun c12 => ?_) (fun c12 => ?_)
    · replace h := (if_neg c12).symm.trans h
      refine lv_aload_n S.1 S.2.1 dX7_fills_39 rfl (lv_at hl 0 rfl) ?_
      refine fl_get S hK iX7 rfl lM_0 sM_0 24 (by decide) (hq _ q_407) (fun _ h9 => h9) (fvs_R rfl rfl) hW dX7_fills_40 ?_
      refine lv_iload_n S.1 S.2.1 dX7_fills_43 rfl (lv_at hl 1 rfl) ?_
      obtain ⟨g13, h⟩ := ix_some h
      refine fl_iald S hK lM_14 sM_14 g13 hW dX7_fills_44 ?_
      obtain ⟨rfl, rfl⟩ := s2 h
      exact fl_iret S.1 S.2.1 hr hlocks hW dX7_fills_45
    · replace h := (if_pos c12).symm.trans h
      refine lv_bipush (v := (-9 : Int32)) S.1 S.2.1 dX7_fills_34 (by decide) ?_
      refine lv_goto (tgt := 45) S.1 S.2.1 dX7_fills_36 (by decide) ?_
      obtain ⟨rfl, rfl⟩ := s2 h
      exact fl_iret S.1 S.2.1 hr hlocks hW dX7_fills_45
  · replace h := (if_pos c5).symm.trans h
    refine lv_iconst (v := (-1 : Int32)) S.1 S.2.1 dX7_fills_13 (by decide) ?_
    obtain ⟨rfl, rfl⟩ := s2 h
    exact fl_iret S.1 S.2.1 hr hlocks hW dX7_fills_14
def fX7_carry_L51 (p1 : Int32) : Nat → Int32 → Int32 → Int32 → Mm → Option (Int32 × Int32 × Int32 × Mm)
  | 0, _, _, _, _ => none
  | n + 1, x3, x4, x5, Ml => if (Ml.1 2 ((0 : Int32)).toNatClampNeg) ≤ x5 then (some (x3, x4, x5, Ml)) else (bP (fX7_asNow Ml) (fun (M18 : Mm) => bP (fX7_ageOf x5 M18) (fun (v20 : Int32) => if (M18.1 2 ((3 : Int32)).toNatClampNeg) ≤ v20 then (ix p1 6 (lt (wI M18 12 (p1).toNatClampNeg (0 : Int32)) (fun (M23 : Mm) => b2 (fX7_filled M23) (fun (v26 : Int32) (M27 : Mm) => if v26 ≤ x4 then (if v26 ≤ x4 then (fX7_carry_L51 p1 n x3 x4 (x5 + (1 : Int32)) M27) else (fX7_carry_L51 p1 n x3 v26 (x5 + (1 : Int32)) M27)) else (if v26 ≤ x4 then (fX7_carry_L51 p1 n x5 x4 (x5 + (1 : Int32)) M27) else (fX7_carry_L51 p1 n x5 v26 (x5 + (1 : Int32)) M27)))))) else (bP (fX7_worksAt v20 M18) (fun (v32 : Int32) => ix p1 6 (lt (wI M18 12 (p1).toNatClampNeg v32) (fun (M34 : Mm) => b2 (fX7_filled M34) (fun (v37 : Int32) (M38 : Mm) => if v37 ≤ x4 then (if v37 ≤ x4 then (fX7_carry_L51 p1 n x3 x4 (x5 + (1 : Int32)) M38) else (fX7_carry_L51 p1 n x3 v37 (x5 + (1 : Int32)) M38)) else (if v37 ≤ x4 then (fX7_carry_L51 p1 n x5 x4 (x5 + (1 : Int32)) M38) else (fX7_carry_L51 p1 n x5 v37 (x5 + (1 : Int32)) M38))))))))))
def fX7_carry (p1 : Int32) (p2 : Int32) (M : Mm) : Option (Int32 × Mm) :=
  lt (wI M 0 0 (0 : Int32)) (fun (M1 : Mm) => bP (fX7_isChild p1 M1) (fun (v4 : Int32) => if v4 = 0 then (some ((-1 : Int32), M1)) else (bP (fX7_in p2 (0 : Int32) (1 : Int32)) (fun (v7 : Int32) => if v7 = 0 then (some ((-1 : Int32), M1)) else (bP (fX7_has (M1.1 6 ((13 : Int32)).toNatClampNeg) p1) (fun (v10 : Int32) => if v10 = 0 then (b4 (fX7_carry_L51 p1 50000 (-9 : Int32) (-9 : Int32) (0 : Int32) M1) (fun (w12 : Int32) (w13 : Int32) (w14 : Int32) (M15 : Mm) => if p2 = 0 then (some (w12, M15)) else (some (w13, M15)))) else (some ((-2 : Int32), M1))))))))
set_option maxHeartbeats 4000000 in
set_option maxRecDepth 100000 in
theorem kX7_carry (l : Launch) {D : va_G} {cy : Nat → ClassId} {ad : Nat → Nat} (hJ : Inj ad 15)  (p1 : Int32) (p2 : Int32) (M : Mm) (r : Int32) (M' : Mm) (h : fX7_carry p1 p2 M = some (r, M')) : Met l yX7_carry vX7_carry ({ frames := 4, cells := 0, slots := 0, locals := 87 } : Room) (PcF [.ref (ad 0), .int p1, .int p2] D cy ad kdV shM rfM 15 M) (QcI r D cy ad kdV shM rfM 15 M') 0 0 (AV ad 15) := by
  refine Met.ofW (cc := cX7_carry) (maxL := 8) (ret := (some .int)) (by decide) rfl ?_
  intro p e s m args below meth c s₁ B hml hv
  obtain ⟨rfl, hP, hK, hN⟩ := hv
  have hr := B.returns
  have hlocks := B.notSynchronized
  have S : CallFix p m c cX7_carry 8 s ([.ref (ad 0), .int p1, .int p2] : List Value).toArray vX7_carry RX7 := ⟨B.exec, B.bytes, hml, findClass_of_methodNamed B.named, atoms_spec (ws := vX7_carry) B.pre⟩
  have hq : ∀ w ∈ GW, w.before ([.ref (ad 0), .int p1, .int p2] : List Value).toArray s = true := fun w h => S.2.2.2.2 w (List.mem_cons_of_mem _ h)
  have hA : ∀ k, k < 15 → AV ad 15 (ad k) := fun k hk => ⟨k, hk, rfl⟩
  have hW : WSt D cy ad kdV shM rfM 15 (AV ad 15) M s.heap s.heap [] := ⟨hP, va_S.rf⟩
  clear hP
  have iX7 : ∀ w ∈ wsX70, w ∈ vX7_carry := fun w h => List.mem_cons_of_mem _ (inX7 w h)
  have hl := lv_entry ([.ref (ad 0), .int p1, .int p2]) (n := 8) (Nat.le_of_ble_eq_true rfl)
  rw [lg_entry_eq]
  generalize (lg_sl ([.ref (ad 0), .int p1, .int p2]) ++ List.replicate (8 - (lg_sl ([.ref (ad 0), .int p1, .int p2])).length) Slot.unset).toArray = ls at hl ⊢
  have hl : lv_has ls 8 [(0, .ref (ad 0)), (1, .int p1), (2, .int p2)] := hl
  rw [fX7_carry] at h
  refine lv_aload_n S.1 S.2.1 dX7_carry_0 rfl (lv_at hl 0 rfl) ?_
  refine lv_iconst (v := (0 : Int32)) S.1 S.2.1 dX7_carry_1 (by decide) ?_
  refine fl_put S hK hJ hA tyX7 tyX7_ok nmX7 iX7 rfl lM_0 sM_0 0 (by decide) (hq _ q_287) (fun _ h9 => h9) rfl (ty := .int) rfl rfl rfl (wI M 0 0 (0 : Int32)) (by decide) (fvs_setI _ _ _ _ _ _ _ rfl) (fun j _ hj => cof_wI_ne hj) hW dX7_carry_2 (fun H locs hW => ?_)
  obtain ⟨M1, e2, h⟩ := lt_some h
  rw [e2] at hW
  clear e2
  refine lv_aload_n S.1 S.2.1 dX7_carry_5 rfl (lv_at hl 0 rfl) ?_
  refine lv_iload_n S.1 S.2.1 dX7_carry_6 rfl (lv_at hl 1 rfl) ?_
  obtain ⟨v4, u3, h⟩ := bP_some h
  refine fl_doneI (fl_runV S hK hN (kX7_isChild l hJ p1 M1 v4 u3) (cwV 1 S.2.2.2.2 (gV q_382 q_383 q_384 q_291 q_381) rfl rfl rfl (by decide +kernel) ⟨Nat.le_of_ble_eq_true rfl, Nat.le_of_ble_eq_true rfl⟩) (ci := 7) rfl lM_0 sM_0 rfl hl.1 rfl (Nat.le_of_ble_eq_true rfl) dX7_carry_7 ⟨Nat.zero_le _, Nat.zero_le _⟩ hW) hA hW.2 (fun H locs hW => ?_)
  refine lv_if_eq (tgt := 22) S.1 S.2.1 dX7_carry_10 (by decide) (fun c5 => ?_) (fun c5 => ?_)
  · replace h := (if_pos c5).symm.trans h
    refine lv_iconst (v := (-1 : Int32)) S.1 S.2.1 dX7_carry_22 (by decide) ?_
    obtain ⟨rfl, rfl⟩ := s2 h
    exact fl_iret S.1 S.2.1 hr hlocks hW dX7_carry_23
  · replace h := (if_neg c5).symm.trans h
    refine lv_iload_n S.1 S.2.1 dX7_carry_13 rfl (lv_at hl 2 rfl) ?_
    refine lv_iconst (v := (0 : Int32)) S.1 S.2.1 dX7_carry_14 (by decide) ?_
    refine lv_iconst (v := (1 : Int32)) S.1 S.2.1 dX7_carry_15 (by decide) ?_
    obtain ⟨v7, u6, h⟩ := bP_some h
    refine fl_doneP (fl_runS S (kX7_in l p2 (0 : Int32) (1 : Int32) v7 u6) (va_cwS 3 S.2.2.2.2 (gS q_289 q_290 q_291 q_288) rfl rfl rfl (by decide +kernel) ⟨Nat.le_of_ble_eq_true rfl, Nat.le_of_ble_eq_true rfl⟩) rfl hl.1 rfl (Nat.le_of_ble_eq_true rfl) dX7_carry_16 ⟨Nat.zero_le _, Nat.zero_le _⟩) hW (fun H locs hW => ?_)
    refine lv_if_ne (tgt := 24) S.1 S.2.1 dX7_carry_19 (by decide) (fun c8 => ?_) (fun c8 => ?_)
    · replace h := (if_neg c8).symm.trans h
      refine lv_aload_n S.1 S.2.1 dX7_carry_24 rfl (lv_at hl 0 rfl) ?_
      refine fl_get S hK iX7 rfl lM_0 sM_0 14 (by decide) (hq _ q_327) (fun _ h9 => h9) (fvs_R rfl rfl) hW dX7_carry_25 ?_
      refine lv_bipush (v := (13 : Int32)) S.1 S.2.1 dX7_carry_28 (by decide) ?_
      refine fl_iald S hK lM_6 sM_6 (vp_dec (i := (13 : Int32)) (n := 21) (by decide)) hW dX7_carry_30 ?_
      refine lv_iload_n S.1 S.2.1 dX7_carry_31 rfl (lv_at hl 1 rfl) ?_
      obtain ⟨v10, u9, h⟩ := bP_some h
      refine fl_doneP (fl_runS S (kX7_has l (M1.1 6 ((13 : Int32)).toNatClampNeg) p1 v10 u9) (va_cwS 2 S.2.2.2.2 (gS q_348 q_349 q_291 q_347) rfl rfl rfl (by decide +kernel) ⟨Nat.le_of_ble_eq_true rfl, Nat.le_of_ble_eq_true rfl⟩) rfl hl.1 rfl (Nat.le_of_ble_eq_true rfl) dX7_carry_32 ⟨Nat.zero_le _, Nat.zero_le _⟩) hW (fun H locs hW => ?_)
      refine lv_if_eq (tgt := 41) S.1 S.2.1 dX7_carry_35 (by decide) (fun c11 => ?_) (fun c11 => ?_)
      · replace h := (if_pos c11).symm.trans h
        refine lv_bipush (v := (-9 : Int32)) S.1 S.2.1 dX7_carry_41 (by decide) ?_
        refine lv_istore_n (lv' := [(3, .int (-9 : Int32)), (0, .ref (ad 0)), (1, .int p1), (2, .int p2)]) S.1 S.2.1 dX7_carry_43 rfl hl (by decide) rfl (fun ls hl => ?_)
        refine lv_bipush (v := (-9 : Int32)) S.1 S.2.1 dX7_carry_44 (by decide) ?_
        refine lv_istore (lv' := [(4, .int (-9 : Int32)), (3, .int (-9 : Int32)), (0, .ref (ad 0)), (1, .int p1), (2, .int p2)]) S.1 S.2.1 dX7_carry_46 hl (by decide) rfl (fun ls hl => ?_)
        refine lv_iconst (v := (0 : Int32)) S.1 S.2.1 dX7_carry_48 (by decide) ?_
        refine lv_istore (lv' := [(5, .int (0 : Int32)), (4, .int (-9 : Int32)), (3, .int (-9 : Int32)), (0, .ref (ad 0)), (1, .int p1), (2, .int p2)]) S.1 S.2.1 dX7_carry_49 hl (by decide) rfl (fun ls hl => ?_)
        have L51 : ∀ (n : Nat) (x3 : Int32) (x4 : Int32) (x5 : Int32) (Ml : Mm) (w12 : Int32) (w13 : Int32) (w14 : Int32) (M15 : Mm), fX7_carry_L51 p1 n x3 x4 x5 Ml = some (w12, w13, w14, M15) → ∀ (H : Heap) (locs : List Loc) (ls : Array Slot), lv_has ls 8 [(0, .ref (ad 0)), (1, .int p1), (2, .int p2), (3, .int x3), (4, .int x4), (5, .int x5)] → WSt D cy ad kdV shM rfM 15 (AV ad 15) Ml s.heap H locs → (∀ (H : Heap) (locs : List Loc) (ls : Array Slot), lv_has ls 8 [(0, .ref (ad 0)), (1, .int p1), (2, .int p2), (3, .int w12), (4, .int w13), (5, .int w14)] → WSt D cy ad kdV shM rfM 15 (AV ad 15) M15 s.heap H locs → W p l e (headSpec vX7_carry ({ frames := 4, cells := 0, slots := 0, locals := 87 } : Room)).room s m ([.ref (ad 0), .int p1, .int p2] : List Value).toArray below meth c H locs 0 0 (MQ below (QcI r D cy ad kdV shM rfM 15 M') ([.ref (ad 0), .int p1, .int p2] : List Value).toArray s 0 0 (AV ad 15)) (F0 m 143 ls [])) → W p l e (headSpec vX7_carry ({ frames := 4, cells := 0, slots := 0, locals := 87 } : Room)).room s m ([.ref (ad 0), .int p1, .int p2] : List Value).toArray below meth c H locs 0 0 (MQ below (QcI r D cy ad kdV shM rfM 15 M') ([.ref (ad 0), .int p1, .int p2] : List Value).toArray s 0 0 (AV ad 15)) (F0 m 51 ls []) := by
          intro n
          induction n with
          | zero => intro x3 x4 x5 Ml w12 w13 w14 M15 h; cases h
          | succ n ih =>
            intro x3 x4 x5 Ml w12 w13 w14 M15 h H locs ls hl hW K
            rw [fX7_carry_L51] at h
            refine lv_iload S.1 S.2.1 dX7_carry_51 (lv_at hl 5 rfl) ?_
            refine lv_aload_n S.1 S.2.1 dX7_carry_53 rfl (lv_at hl 0 rfl) ?_
            refine fl_get S hK iX7 rfl lM_0 sM_0 10 (by decide) (hq _ q_319) (fun _ h9 => h9) (fvs_R rfl rfl) hW dX7_carry_54 ?_
            refine lv_iconst (v := (0 : Int32)) S.1 S.2.1 dX7_carry_57 (by decide) ?_
            refine fl_iald S hK lM_2 sM_2 (vp_dec (i := (0 : Int32)) (n := 8) (by decide)) hW dX7_carry_58 ?_
            refine lv_icmp_ge (tgt := 143) S.1 S.2.1 dX7_carry_59 (by decide) (fun c16 => ?_) (fun c16 => ?_)
            · replace h := (if_pos c16).symm.trans h
              obtain ⟨rfl, rfl, rfl, rfl⟩ := s4 h
              exact K _ _ _ hl hW
            · replace h := (if_neg c16).symm.trans h
              refine lv_aload_n S.1 S.2.1 dX7_carry_62 rfl (lv_at hl 0 rfl) ?_
              obtain ⟨M18, u17, h⟩ := bP_some h
              refine fl_doneV (fl_runV S hK hN (kX7_asNow l hJ Ml M18 u17) (cwV 0 S.2.2.2.2 (gV q_409 q_410 q_411 q_291 q_408) rfl rfl rfl (by decide +kernel) ⟨Nat.le_of_ble_eq_true rfl, Nat.le_of_ble_eq_true rfl⟩) (ci := 7) rfl lM_0 sM_0 rfl hl.1 rfl (Nat.le_of_ble_eq_true rfl) dX7_carry_63 ⟨Nat.zero_le _, Nat.zero_le _⟩ hW) hA hW.2 (fun H locs hW => ?_)
              refine lv_aload_n S.1 S.2.1 dX7_carry_66 rfl (lv_at hl 0 rfl) ?_
              refine lv_iload S.1 S.2.1 dX7_carry_67 (lv_at hl 5 rfl) ?_
              obtain ⟨v20, u19, h⟩ := bP_some h
              refine fl_doneI (fl_runV S hK hN (kX7_ageOf l hJ x5 M18 v20 u19) (cwV 1 S.2.2.2.2 (gV q_378 q_379 q_380 q_291 q_377) rfl rfl rfl (by decide +kernel) ⟨Nat.le_of_ble_eq_true rfl, Nat.le_of_ble_eq_true rfl⟩) (ci := 7) rfl lM_0 sM_0 rfl hl.1 rfl (Nat.le_of_ble_eq_true rfl) dX7_carry_69 ⟨Nat.zero_le _, Nat.zero_le _⟩ hW) hA hW.2 (fun H locs hW => ?_)
              refine lv_istore (lv' := [(6, .int v20), (0, .ref (ad 0)), (1, .int p1), (2, .int p2), (3, .int x3), (4, .int x4), (5, .int x5)]) S.1 S.2.1 dX7_carry_72 hl (by decide) rfl (fun ls hl => ?_)
              refine lv_aload_n S.1 S.2.1 dX7_carry_74 rfl (lv_at hl 1 rfl) ?_
              refine fl_get S hK iX7 rfl lM_0 sM_0 22 (by decide) (hq _ q_397) (fun _ h9 => h9) (fvs_R rfl rfl) hW dX7_carry_75 ?_
              refine lv_iload_n S.1 S.2.1 dX7_carry_78 rfl (lv_at hl 2 rfl) ?_
              refine lv_iload S.1 S.2.1 dX7_carry_79 (lv_at hl 0 rfl) ?_
              refine lv_aload_n S.1 S.2.1 dX7_carry_81 rfl (lv_at hl 1 rfl) ?_
              refine fl_get S hK iX7 rfl lM_0 sM_0 10 (by decide) (hq _ q_319) (fun _ h9 => h9) (fvs_R rfl rfl) hW dX7_carry_82 ?_
              refine lv_iconst (v := (3 : Int32)) S.1 S.2.1 dX7_carry_85 (by decide) ?_
              refine fl_iald S hK lM_2 sM_2 (vp_dec (i := (3 : Int32)) (n := 8) (by decide)) hW dX7_carry_86 ?_
              refine lv_icmp_ge (tgt := 99) S.1 S.2.1 dX7_carry_87 (by decide) (fun c21 => ?_) (fun c21 => ?_)
              · replace h := (if_pos c21).symm.trans h
                refine lv_iconst (v := (0 : Int32)) S.1 S.2.1 dX7_carry_99 (by decide) ?_
                obtain ⟨g22, h⟩ := ix_some h
                refine fl_iast S hK hJ hA lM_12 sM_12 g22 hW dX7_carry_100 (fun H locs hW => ?_)
                obtain ⟨M23, e24, h⟩ := lt_some h
                rw [e24] at hW
                clear e24
                refine lv_aload_n S.1 S.2.1 dX7_carry_101 rfl (lv_at hl 1 rfl) ?_
                obtain ⟨v26, M27, u25, h⟩ := b2_some h
                refine fl_doneI (fl_runV S hK hN (kX7_filled l hJ M23 v26 M27 u25) (cwV 0 S.2.2.2.2 (gV q_413 q_414 q_415 q_291 q_412) rfl rfl rfl (by decide +kernel) ⟨Nat.le_of_ble_eq_true rfl, Nat.le_of_ble_eq_true rfl⟩) (ci := 7) rfl lM_0 sM_0 rfl hl.1 rfl (Nat.le_of_ble_eq_true rfl) dX7_carry_102 ⟨Nat.zero_le _, Nat.zero_le _⟩ hW) hA hW.2 (fun H locs hW => ?_)
                refine lv_istore (lv' := [(7, .int v26), (6, .int v20), (0, .ref (ad 0)), (1, .int p1), (2, .int p2), (3, .int x3), (4, .int x4), (5, .int x5)]) S.1 S.2.1 dX7_carry_105 hl (by decide) rfl (fun ls hl => ?_)
                refine lv_iload S.1 S.2.1 dX7_carry_107 (lv_at hl 0 rfl) ?_
                refine lv_iload S.1 S.2.1 dX7_carry_109 (lv_at hl 6 rfl) ?_
                refine lv_icmp_le (tgt := 119) S.1 S.2.1 dX7_carry_111 (by decide) (fun c28 => ?_) (fun c28 => ?_)
                · replace h := (if_pos c28).symm.trans h
                  refine lv_iload_n S.1 S.2.1 dX7_carry_119 rfl (lv_at hl 5 rfl) ?_
                  refine lv_istore_n (lv' := [(3, .int x3), (7, .int v26), (6, .int v20), (0, .ref (ad 0)), (1, .int p1), (2, .int p2), (4, .int x4), (5, .int x5)]) S.1 S.2.1 dX7_carry_120 rfl hl (by decide) rfl (fun ls hl => ?_)
                  refine lv_iload S.1 S.2.1 dX7_carry_121 (lv_at hl 1 rfl) ?_
                  refine lv_iload S.1 S.2.1 dX7_carry_123 (lv_at hl 6 rfl) ?_
                  refine lv_icmp_le (tgt := 133) S.1 S.2.1 dX7_carry_125 (by decide) (fun c29 => ?_) (fun c29 => ?_)
                  · replace h := (if_pos c29).symm.trans h
                    refine lv_iload S.1 S.2.1 dX7_carry_133 (lv_at hl 6 rfl) ?_
                    refine lv_istore (lv' := [(4, .int x4), (3, .int x3), (7, .int v26), (6, .int v20), (0, .ref (ad 0)), (1, .int p1), (2, .int p2), (5, .int x5)]) S.1 S.2.1 dX7_carry_135 hl (by decide) rfl (fun ls hl => ?_)
                    refine lv_iinc (v := x5 + (1 : Int32)) (lv' := [(5, .int (x5 + (1 : Int32))), (4, .int x4), (3, .int x3), (7, .int v26), (6, .int v20), (0, .ref (ad 0)), (1, .int p1), (2, .int p2)]) S.1 S.2.1 dX7_carry_137 hl (k := 7) rfl rfl (by decide) rfl (fun ls hl => ?_)
                    refine lv_goto (tgt := 51) S.1 S.2.1 dX7_carry_140 (by decide) ?_
                    exact ih _ _ _ _ _ _ _ _ h _ _ _ (lv_sub hl [5, 6, 7, 2, 1, 0] rfl) hW K
                  · replace h := (if_neg c29).symm.trans h
                    refine lv_iload S.1 S.2.1 dX7_carry_128 (lv_at hl 1 rfl) ?_
                    refine lv_goto (tgt := 135) S.1 S.2.1 dX7_carry_130 (by decide) ?_
                    refine lv_istore (lv' := [(4, .int v26), (3, .int x3), (7, .int v26), (6, .int v20), (0, .ref (ad 0)), (1, .int p1), (2, .int p2), (5, .int x5)]) S.1 S.2.1 dX7_carry_135 hl (by decide) rfl (fun ls hl => ?_)
                    refine lv_iinc (v := x5 + (1 : Int32)) (lv' := [(5, .int (x5 + (1 : Int32))), (4, .int v26), (3, .int x3), (7, .int v26), (6, .int v20), (0, .ref (ad 0)), (1, .int p1), (2, .int p2)]) S.1 S.2.1 dX7_carry_137 hl (k := 7) rfl rfl (by decide) rfl (fun ls hl => ?_)
                    refine lv_goto (tgt := 51) S.1 S.2.1 dX7_carry_140 (by decide) ?_
                    exact ih _ _ _ _ _ _ _ _ h _ _ _ (lv_sub hl [5, 6, 7, 2, 1, 0] rfl) hW K
                · replace h := (if_neg c28).symm.trans h
                  refine lv_iload S.1 S.2.1 dX7_carry_114 (lv_at hl 7 rfl) ?_
                  refine lv_goto (tgt := 120) S.1 S.2.1 dX7_carry_116 (by decide) ?_
                  refine lv_istore_n (lv' := [(3, .int x5), (7, .int v26), (6, .int v20), (0, .ref (ad 0)), (1, .int p1), (2, .int p2), (4, .int x4), (5, .int x5)]) S.1 S.2.1 dX7_carry_120 rfl hl (by decide) rfl (fun ls hl => ?_)
                  refine lv_iload S.1 S.2.1 dX7_carry_121 (lv_at hl 1 rfl) ?_
                  refine lv_iload S.1 S.2.1 dX7_carry_123 (lv_at hl 6 rfl) ?_
                  refine lv_icmp_le (tgt := 133) S.1 S.2.1 dX7_carry_125 (by decide) (fun c30 => ?_) (fun c30 => ?_)
                  · replace h := (if_pos c30).symm.trans h
                    refine lv_iload S.1 S.2.1 dX7_carry_133 (lv_at hl 6 rfl) ?_
                    refine lv_istore (lv' := [(4, .int x4), (3, .int x5), (7, .int v26), (6, .int v20), (0, .ref (ad 0)), (1, .int p1), (2, .int p2), (5, .int x5)]) S.1 S.2.1 dX7_carry_135 hl (by decide) rfl (fun ls hl => ?_)
                    refine lv_iinc (v := x5 + (1 : Int32)) (lv' := [(5, .int (x5 + (1 : Int32))), (4, .int x4), (3, .int x5), (7, .int v26), (6, .int v20), (0, .ref (ad 0)), (1, .int p1), (2, .int p2)]) S.1 S.2.1 dX7_carry_137 hl (k := 7) rfl rfl (by decide) rfl (fun ls hl => ?_)
                    refine lv_goto (tgt := 51) S.1 S.2.1 dX7_carry_140 (by decide) ?_
                    exact ih _ _ _ _ _ _ _ _ h _ _ _ (lv_sub hl [5, 6, 7, 2, 1, 0] rfl) hW K
                  · replace h := (if_neg c30).symm.trans h
                    refine lv_iload S.1 S.2.1 dX7_carry_128 (lv_at hl 1 rfl) ?_
                    refine lv_goto (tgt := 135) S.1 S.2.1 dX7_carry_130 (by decide) ?_
                    refine lv_istore (lv' := [(4, .int v26), (3, .int x5), (7, .int v26), (6, .int v20), (0, .ref (ad 0)), (1, .int p1), (2, .int p2), (5, .int x5)]) S.1 S.2.1 dX7_carry_135 hl (by decide) rfl (fun ls hl => ?_)
                    refine lv_iinc (v := x5 + (1 : Int32)) (lv' := [(5, .int (x5 + (1 : Int32))), (4, .int v26), (3, .int x5), (7, .int v26), (6, .int v20), (0, .ref (ad 0)), (1, .int p1), (2, .int p2)]) S.1 S.2.1 dX7_carry_137 hl (k := 7) rfl rfl (by decide) rfl (fun ls hl => ?_)
                    refine lv_goto (tgt := 51) S.1 S.2.1 dX7_carry_140 (by decide) ?_
                    exact ih _ _ _ _ _ _ _ _ h _ _ _ (lv_sub hl [5, 6, 7, 2, 1, 0] rfl) hW K
              · replace h := (if_neg c21).symm.trans h
                refine lv_aload_n S.1 S.2.1 dX7_carry_90 rfl (lv_at hl 1 rfl) ?_
                refine lv_iload S.1 S.2.1 dX7_carry_91 (lv_at hl 0 rfl) ?_
                obtain ⟨v32, u31, h⟩ := bP_some h
                refine fl_doneI (fl_runV S hK hN (kX7_worksAt l hJ v20 M18 v32 u31) (cwV 1 S.2.2.2.2 (gV q_362 q_363 q_364 q_291 q_361) rfl rfl rfl (by decide +kernel) ⟨Nat.le_of_ble_eq_true rfl, Nat.le_of_ble_eq_true rfl⟩) (ci := 7) rfl lM_0 sM_0 rfl hl.1 rfl (Nat.le_of_ble_eq_true rfl) dX7_carry_93 ⟨Nat.zero_le _, Nat.zero_le _⟩ hW) hA hW.2 (fun H locs hW => ?_)
                refine lv_goto (tgt := 100) S.1 S.2.1 dX7_carry_96 (by decide) ?_
                obtain ⟨g33, h⟩ := ix_some h
                refine fl_iast S hK hJ hA lM_12 sM_12 g33 hW dX7_carry_100 (fun H locs hW => ?_)
                obtain ⟨M34, e35, h⟩ := lt_some h
                rw [e35] at hW
                clear e35
                refine lv_aload_n S.1 S.2.1 dX7_carry_101 rfl (lv_at hl 1 rfl) ?_
                obtain ⟨v37, M38, u36, h⟩ := b2_some h
                refine fl_doneI (fl_runV S hK hN (kX7_filled l hJ M34 v37 M38 u36) (cwV 0 S.2.2.2.2 (gV q_413 q_414 q_415 q_291 q_412) rfl rfl rfl (by decide +kernel) ⟨Nat.le_of_ble_eq_true rfl, Nat.le_of_ble_eq_true rfl⟩) (ci := 7) rfl lM_0 sM_0 rfl hl.1 rfl (Nat.le_of_ble_eq_true rfl) dX7_carry_102 ⟨Nat.zero_le _, Nat.zero_le _⟩ hW) hA hW.2 (fun H locs hW => ?_)
                refine lv_istore (lv' := [(7, .int v37), (6, .int v20), (0, .ref (ad 0)), (1, .int p1), (2, .int p2), (3, .int x3), (4, .int x4), (5, .int x5)]) S.1 S.2.1 dX7_carry_105 hl (by decide) rfl (fun ls hl => ?_)
                refine lv_iload S.1 S.2.1 dX7_carry_107 (lv_at hl 0 rfl) ?_
                refine lv_iload S.1 S.2.1 dX7_carry_109 (lv_at hl 6 rfl) ?_
                refine lv_icmp_le (tgt := 119) S.1 S.2.1 dX7_carry_111 (by decide) (fun c39 => ?_) (fun c39 => ?_)
                · replace h := (if_pos c39).symm.trans h
                  refine lv_iload_n S.1 S.2.1 dX7_carry_119 rfl (lv_at hl 5 rfl) ?_
                  refine lv_istore_n (lv' := [(3, .int x3), (7, .int v37), (6, .int v20), (0, .ref (ad 0)), (1, .int p1), (2, .int p2), (4, .int x4), (5, .int x5)]) S.1 S.2.1 dX7_carry_120 rfl hl (by decide) rfl (fun ls hl => ?_)
                  refine lv_iload S.1 S.2.1 dX7_carry_121 (lv_at hl 1 rfl) ?_
                  refine lv_iload S.1 S.2.1 dX7_carry_123 (lv_at hl 6 rfl) ?_
                  refine lv_icmp_le (tgt := 133) S.1 S.2.1 dX7_carry_125 (by decide) (fun c40 => ?_) (fun c40 => ?_)
                  · replace h := (if_pos c40).symm.trans h
                    refine lv_iload S.1 S.2.1 dX7_carry_133 (lv_at hl 6 rfl) ?_
                    refine lv_istore (lv' := [(4, .int x4), (3, .int x3), (7, .int v37), (6, .int v20), (0, .ref (ad 0)), (1, .int p1), (2, .int p2), (5, .int x5)]) S.1 S.2.1 dX7_carry_135 hl (by decide) rfl (fun ls hl => ?_)
                    refine lv_iinc (v := x5 + (1 : Int32)) (lv' := [(5, .int (x5 + (1 : Int32))), (4, .int x4), (3, .int x3), (7, .int v37), (6, .int v20), (0, .ref (ad 0)), (1, .int p1), (2, .int p2)]) S.1 S.2.1 dX7_carry_137 hl (k := 7) rfl rfl (by decide) rfl (fun ls hl => ?_)
                    refine lv_goto (tgt := 51) S.1 S.2.1 dX7_carry_140 (by decide) ?_
                    exact ih _ _ _ _ _ _ _ _ h _ _ _ (lv_sub hl [5, 6, 7, 2, 1, 0] rfl) hW K
                  · replace h := (if_neg c40).symm.trans h
                    refine lv_iload S.1 S.2.1 dX7_carry_128 (lv_at hl 1 rfl) ?_
                    refine lv_goto (tgt := 135) S.1 S.2.1 dX7_carry_130 (by decide) ?_
                    refine lv_istore (lv' := [(4, .int v37), (3, .int x3), (7, .int v37), (6, .int v20), (0, .ref (ad 0)), (1, .int p1), (2, .int p2), (5, .int x5)]) S.1 S.2.1 dX7_carry_135 hl (by decide) rfl (fun ls hl => ?_)
                    refine lv_iinc (v := x5 + (1 : Int32)) (lv' := [(5, .int (x5 + (1 : Int32))), (4, .int v37), (3, .int x3), (7, .int v37), (6, .int v20), (0, .ref (ad 0)), (1, .int p1), (2, .int p2)]) S.1 S.2.1 dX7_carry_137 hl (k := 7) rfl rfl (by decide) rfl (fun ls hl => ?_)
                    refine lv_goto (tgt := 51) S.1 S.2.1 dX7_carry_140 (by decide) ?_
                    exact ih _ _ _ _ _ _ _ _ h _ _ _ (lv_sub hl [5, 6, 7, 2, 1, 0] rfl) hW K
                · replace h := (if_neg c39).symm.trans h
                  refine lv_iload S.1 S.2.1 dX7_carry_114 (lv_at hl 7 rfl) ?_
                  refine lv_goto (tgt := 120) S.1 S.2.1 dX7_carry_116 (by decide) ?_
                  refine lv_istore_n (lv' := [(3, .int x5), (7, .int v37), (6, .int v20), (0, .ref (ad 0)), (1, .int p1), (2, .int p2), (4, .int x4), (5, .int x5)]) S.1 S.2.1 dX7_carry_120 rfl hl (by decide) rfl (fun ls hl => ?_)
                  refine lv_iload S.1 S.2.1 dX7_carry_121 (lv_at hl 1 rfl) ?_
                  refine lv_iload S.1 S.2.1 dX7_carry_123 (lv_at hl 6 rfl) ?_
                  refine lv_icmp_le (tgt := 133) S.1 S.2.1 dX7_carry_125 (by decide) (fun c41 => ?_) (fun c41 => ?_)
                  · replace h := (if_pos c41).symm.trans h
                    refine lv_iload S.1 S.2.1 dX7_carry_133 (lv_at hl 6 rfl) ?_
                    refine lv_istore (lv' := [(4, .int x4), (3, .int x5), (7, .int v37), (6, .int v20), (0, .ref (ad 0)), (1, .int p1), (2, .int p2), (5, .int x5)]) S.1 S.2.1 dX7_carry_135 hl (by decide) rfl (fun ls hl => ?_)
                    refine lv_iinc (v := x5 + (1 : Int32)) (lv' := [(5, .int (x5 + (1 : Int32))), (4, .int x4), (3, .int x5), (7, .int v37), (6, .int v20), (0, .ref (ad 0)), (1, .int p1), (2, .int p2)]) S.1 S.2.1 dX7_carry_137 hl (k := 7) rfl rfl (by decide) rfl (fun ls hl => ?_)
                    refine lv_goto (tgt := 51) S.1 S.2.1 dX7_carry_140 (by decide) ?_
                    exact ih _ _ _ _ _ _ _ _ h _ _ _ (lv_sub hl [5, 6, 7, 2, 1, 0] rfl) hW K
                  · replace h := (if_neg c41).symm.trans h
                    refine lv_iload S.1 S.2.1 dX7_carry_128 (lv_at hl 1 rfl) ?_
                    refine lv_goto (tgt := 135) S.1 S.2.1 dX7_carry_130 (by decide) ?_
                    refine lv_istore (lv' := [(4, .int v37), (3, .int x5), (7, .int v37), (6, .int v20), (0, .ref (ad 0)), (1, .int p1), (2, .int p2), (5, .int x5)]) S.1 S.2.1 dX7_carry_135 hl (by decide) rfl (fun ls hl => ?_)
                    refine lv_iinc (v := x5 + (1 : Int32)) (lv' := [(5, .int (x5 + (1 : Int32))), (4, .int v37), (3, .int x5), (7, .int v37), (6, .int v20), (0, .ref (ad 0)), (1, .int p1), (2, .int p2)]) S.1 S.2.1 dX7_carry_137 hl (k := 7) rfl rfl (by decide) rfl (fun ls hl => ?_)
                    refine lv_goto (tgt := 51) S.1 S.2.1 dX7_carry_140 (by decide) ?_
                    exact ih _ _ _ _ _ _ _ _ h _ _ _ (lv_sub hl [5, 6, 7, 2, 1, 0] rfl) hW K
        obtain ⟨w12, w13, w14, M15, u43, h⟩ := b4_some h
        refine L51 50000 _ _ _ _ _ _ _ _ u43 _ _ _ (lv_sub hl [3, 4, 5, 2, 1, 0] rfl) hW (fun H locs ls hl hW => ?_)
        clear L51
        refine lv_iload_n S.1 S.2.1 dX7_carry_143 rfl (lv_at hl 2 rfl) ?_
        refine lv_if_ne (tgt := 151) S.1 S.2.1 dX7_carry_144 (by decide) (fun c42 => ?_) (fun c42 => ?_)
        · replace h := (if_neg c42).symm.trans h
          refine lv_iload S.1 S.2.1 dX7_carry_151 (lv_at hl 4 rfl) ?_
          obtain ⟨rfl, rfl⟩ := s2 h
          exact fl_iret S.1 S.2.1 hr hlocks hW dX7_carry_153
        · replace h := (if_pos c42).symm.trans h
          refine lv_iload_n S.1 S.2.1 dX7_carry_147 rfl (lv_at hl 3 rfl) ?_
          refine lv_goto (tgt := 153) S.1 S.2.1 dX7_carry_148 (by decide) ?_
          obtain ⟨rfl, rfl⟩ := s2 h
          exact fl_iret S.1 S.2.1 hr hlocks hW dX7_carry_153
      · replace h := (if_neg c11).symm.trans h
        refine lv_bipush (v := (-2 : Int32)) S.1 S.2.1 dX7_carry_38 (by decide) ?_
        obtain ⟨rfl, rfl⟩ := s2 h
        exact fl_iret S.1 S.2.1 hr hlocks hW dX7_carry_40
    · replace h := (if_pos c8).symm.trans h
      refine lv_iconst (v := (-1 : Int32)) S.1 S.2.1 dX7_carry_22 (by decide) ?_
      obtain ⟨rfl, rfl⟩ := s2 h
      exact fl_iret S.1 S.2.1 hr hlocks hW dX7_carry_23
def fX7_join_L32 (p1 : Int32) (M1 : Mm) : Nat → Int32 → Int32 → Option (Int32 × Int32)
  | 0, _, _ => none
  | n + 1, x2, x3 => if x3 ≤ 0 then (some (x2, x3)) else (bP (fX7_ageBy x3 M1) (fun (v10 : Int32) => if v10 = p1 then (if x2 = (-9 : Int32) then (fX7_join_L32 p1 M1 n x3 (x3 + (-1 : Int32))) else (bP (fX7_ones x3) (fun (v14 : Int32) => bP (fX7_ones x2) (fun (v16 : Int32) => if v16 < v14 then (fX7_join_L32 p1 M1 n x2 (x3 + (-1 : Int32))) else (fX7_join_L32 p1 M1 n x3 (x3 + (-1 : Int32))))))) else (fX7_join_L32 p1 M1 n x2 (x3 + (-1 : Int32)))))
def fX7_join (p1 : Int32) (M : Mm) : Option (Int32 × Mm) :=
  lt (wI M 0 0 (0 : Int32)) (fun (M1 : Mm) => bP (fX7_in p1 (0 : Int32) (198 : Int32)) (fun (v4 : Int32) => if v4 = 0 then (some ((-1 : Int32), M1)) else (b2 (fX7_join_L32 p1 M1 50000 (-9 : Int32) (((1 : Int32) <<< ((M1.1 2 ((0 : Int32)).toNatClampNeg) &&& 31)) - (1 : Int32))) (fun (w6 : Int32) (w7 : Int32) => some (w6, M1)))))
set_option maxHeartbeats 4000000 in
set_option maxRecDepth 100000 in
theorem kX7_join (l : Launch) {D : va_G} {cy : Nat → ClassId} {ad : Nat → Nat} (hJ : Inj ad 15)  (p1 : Int32) (M : Mm) (r : Int32) (M' : Mm) (h : fX7_join p1 M = some (r, M')) : Met l yX7_join vX7_join ({ frames := 2, cells := 0, slots := 0, locals := 45 } : Room) (PcF [.ref (ad 0), .int p1] D cy ad kdV shM rfM 15 M) (QcI r D cy ad kdV shM rfM 15 M') 0 0 (AV ad 15) := by
  refine Met.ofW (cc := cX7_join) (maxL := 4) (ret := (some .int)) (by decide) rfl ?_
  intro p e s m args below meth c s₁ B hml hv
  obtain ⟨rfl, hP, hK, hN⟩ := hv
  have hr := B.returns
  have hlocks := B.notSynchronized
  have S : CallFix p m c cX7_join 4 s ([.ref (ad 0), .int p1] : List Value).toArray vX7_join RX7 := ⟨B.exec, B.bytes, hml, findClass_of_methodNamed B.named, atoms_spec (ws := vX7_join) B.pre⟩
  have hq : ∀ w ∈ GW, w.before ([.ref (ad 0), .int p1] : List Value).toArray s = true := fun w h => S.2.2.2.2 w (List.mem_cons_of_mem _ h)
  have hA : ∀ k, k < 15 → AV ad 15 (ad k) := fun k hk => ⟨k, hk, rfl⟩
  have hW : WSt D cy ad kdV shM rfM 15 (AV ad 15) M s.heap s.heap [] := ⟨hP, va_S.rf⟩
  clear hP
  have iX7 : ∀ w ∈ wsX70, w ∈ vX7_join := fun w h => List.mem_cons_of_mem _ (inX7 w h)
  have hl := lv_entry ([.ref (ad 0), .int p1]) (n := 4) (Nat.le_of_ble_eq_true rfl)
  rw [lg_entry_eq]
  generalize (lg_sl ([.ref (ad 0), .int p1]) ++ List.replicate (4 - (lg_sl ([.ref (ad 0), .int p1])).length) Slot.unset).toArray = ls at hl ⊢
  have hl : lv_has ls 4 [(0, .ref (ad 0)), (1, .int p1)] := hl
  rw [fX7_join] at h
  refine lv_aload_n S.1 S.2.1 dX7_join_0 rfl (lv_at hl 0 rfl) ?_
  refine lv_iconst (v := (0 : Int32)) S.1 S.2.1 dX7_join_1 (by decide) ?_
  refine fl_put S hK hJ hA tyX7 tyX7_ok nmX7 iX7 rfl lM_0 sM_0 0 (by decide) (hq _ q_287) (fun _ h9 => h9) rfl (ty := .int) rfl rfl rfl (wI M 0 0 (0 : Int32)) (by decide) (fvs_setI _ _ _ _ _ _ _ rfl) (fun j _ hj => cof_wI_ne hj) hW dX7_join_2 (fun H locs hW => ?_)
  obtain ⟨M1, e2, h⟩ := lt_some h
  rw [e2] at hW
  clear e2
  refine lv_iload_n S.1 S.2.1 dX7_join_5 rfl (lv_at hl 1 rfl) ?_
  refine lv_iconst (v := (0 : Int32)) S.1 S.2.1 dX7_join_6 (by decide) ?_
  refine lv_sipush (v := (198 : Int32)) S.1 S.2.1 dX7_join_7 (by decide) ?_
  obtain ⟨v4, u3, h⟩ := bP_some h
  refine fl_doneP (fl_runS S (kX7_in l p1 (0 : Int32) (198 : Int32) v4 u3) (va_cwS 3 S.2.2.2.2 (gS q_289 q_290 q_291 q_288) rfl rfl rfl (by decide +kernel) ⟨Nat.le_of_ble_eq_true rfl, Nat.le_of_ble_eq_true rfl⟩) rfl hl.1 rfl (Nat.le_of_ble_eq_true rfl) dX7_join_10 ⟨Nat.zero_le _, Nat.zero_le _⟩) hW (fun H locs hW => ?_)
  refine lv_if_ne (tgt := 18) S.1 S.2.1 dX7_join_13 (by decide) (fun c5 => ?_) (fun c5 => ?_)
  · replace h := (if_neg c5).symm.trans h
    refine lv_bipush (v := (-9 : Int32)) S.1 S.2.1 dX7_join_18 (by decide) ?_
    refine lv_istore_n (lv' := [(2, .int (-9 : Int32)), (0, .ref (ad 0)), (1, .int p1)]) S.1 S.2.1 dX7_join_20 rfl hl (by decide) rfl (fun ls hl => ?_)
    refine lv_iconst (v := (1 : Int32)) S.1 S.2.1 dX7_join_21 (by decide) ?_
    refine lv_aload_n S.1 S.2.1 dX7_join_22 rfl (lv_at hl 1 rfl) ?_
    refine fl_get S hK iX7 rfl lM_0 sM_0 10 (by decide) (hq _ q_319) (fun _ h9 => h9) (fvs_R rfl rfl) hW dX7_join_23 ?_
    refine lv_iconst (v := (0 : Int32)) S.1 S.2.1 dX7_join_26 (by decide) ?_
    refine fl_iald S hK lM_2 sM_2 (vp_dec (i := (0 : Int32)) (n := 8) (by decide)) hW dX7_join_27 ?_
    refine lv_ishl S.1 S.2.1 dX7_join_28 ?_
    refine lv_iconst (v := (1 : Int32)) S.1 S.2.1 dX7_join_29 (by decide) ?_
    refine lv_isub S.1 S.2.1 dX7_join_30 ?_
    refine lv_istore_n (lv' := [(3, .int (((1 : Int32) <<< ((M1.1 2 ((0 : Int32)).toNatClampNeg) &&& 31)) - (1 : Int32))), (2, .int (-9 : Int32)), (0, .ref (ad 0)), (1, .int p1)]) S.1 S.2.1 dX7_join_31 rfl hl (by decide) rfl (fun ls hl => ?_)
    have L32 : ∀ (n : Nat) (x2 : Int32) (x3 : Int32) (w6 : Int32) (w7 : Int32), fX7_join_L32 p1 M1 n x2 x3 = some (w6, w7) → ∀ (H : Heap) (locs : List Loc) (ls : Array Slot), lv_has ls 4 [(0, .ref (ad 0)), (1, .int p1), (2, .int x2), (3, .int x3)] → WSt D cy ad kdV shM rfM 15 (AV ad 15) M1 s.heap H locs → (∀ (H : Heap) (locs : List Loc) (ls : Array Slot), lv_has ls 4 [(0, .ref (ad 0)), (1, .int p1), (2, .int w6), (3, .int w7)] → WSt D cy ad kdV shM rfM 15 (AV ad 15) M1 s.heap H locs → W p l e (headSpec vX7_join ({ frames := 2, cells := 0, slots := 0, locals := 45 } : Room)).room s m ([.ref (ad 0), .int p1] : List Value).toArray below meth c H locs 0 0 (MQ below (QcI r D cy ad kdV shM rfM 15 M') ([.ref (ad 0), .int p1] : List Value).toArray s 0 0 (AV ad 15)) (F0 m 74 ls [])) → W p l e (headSpec vX7_join ({ frames := 2, cells := 0, slots := 0, locals := 45 } : Room)).room s m ([.ref (ad 0), .int p1] : List Value).toArray below meth c H locs 0 0 (MQ below (QcI r D cy ad kdV shM rfM 15 M') ([.ref (ad 0), .int p1] : List Value).toArray s 0 0 (AV ad 15)) (F0 m 32 ls []) := by
      intro n
      induction n with
      | zero => intro x2 x3 w6 w7 h; cases h
      | succ n ih =>
        intro x2 x3 w6 w7 h H locs ls hl hW K
        rw [fX7_join_L32] at h
        refine lv_iload_n S.1 S.2.1 dX7_join_32 rfl (lv_at hl 3 rfl) ?_
        refine lv_if_le (tgt := 74) S.1 S.2.1 dX7_join_33 (by decide) (fun c8 => ?_) (fun c8 => ?_)
        · replace h := (if_pos c8).symm.trans h
          obtain ⟨rfl, rfl⟩ := s2 h
          exact K _ _ _ hl hW
        · replace h := (if_neg c8).symm.trans h
          refine lv_aload_n S.1 S.2.1 dX7_join_36 rfl (lv_at hl 0 rfl) ?_
          refine lv_iload_n S.1 S.2.1 dX7_join_37 rfl (lv_at hl 3 rfl) ?_
          obtain ⟨v10, u9, h⟩ := bP_some h
          refine fl_doneI (fl_runV S hK hN (kX7_ageBy l hJ x3 M1 v10 u9) (cwV 1 S.2.2.2.2 (gV q_358 q_359 q_360 q_291 q_357) rfl rfl rfl (by decide +kernel) ⟨Nat.le_of_ble_eq_true rfl, Nat.le_of_ble_eq_true rfl⟩) (ci := 7) rfl lM_0 sM_0 rfl hl.1 rfl (Nat.le_of_ble_eq_true rfl) dX7_join_38 ⟨Nat.zero_le _, Nat.zero_le _⟩ hW) hA hW.2 (fun H locs hW => ?_)
          refine lv_iload_n S.1 S.2.1 dX7_join_41 rfl (lv_at hl 1 rfl) ?_
          refine lv_icmp_ne (tgt := 66) S.1 S.2.1 dX7_join_42 (by decide) (fun c11 => ?_) (fun c11 => ?_)
          · replace h := (if_neg c11).symm.trans h
            refine lv_iload_n S.1 S.2.1 dX7_join_66 rfl (lv_at hl 2 rfl) ?_
            refine lv_istore_n (lv' := [(2, .int x2), (0, .ref (ad 0)), (1, .int p1), (3, .int x3)]) S.1 S.2.1 dX7_join_67 rfl hl (by decide) rfl (fun ls hl => ?_)
            refine lv_iinc (v := x3 + (-1 : Int32)) (lv' := [(3, .int (x3 + (-1 : Int32))), (2, .int x2), (0, .ref (ad 0)), (1, .int p1)]) S.1 S.2.1 dX7_join_68 hl (k := 3) rfl rfl (by decide) rfl (fun ls hl => ?_)
            refine lv_goto (tgt := 32) S.1 S.2.1 dX7_join_71 (by decide) ?_
            exact ih _ _ _ _ h _ _ _ (lv_sub hl [2, 3, 1, 0] rfl) hW K
          · replace h := (if_pos c11).symm.trans h
            refine lv_iload_n S.1 S.2.1 dX7_join_45 rfl (lv_at hl 2 rfl) ?_
            refine lv_bipush (v := (-9 : Int32)) S.1 S.2.1 dX7_join_46 (by decide) ?_
            refine lv_icmp_eq (tgt := 62) S.1 S.2.1 dX7_join_48 (by decide) (fun c12 => ?_) (fun c12 => ?_)
            · replace h := (if_pos c12).symm.trans h
              refine lv_iload_n S.1 S.2.1 dX7_join_62 rfl (lv_at hl 3 rfl) ?_
              refine lv_goto (tgt := 67) S.1 S.2.1 dX7_join_63 (by decide) ?_
              refine lv_istore_n (lv' := [(2, .int x3), (0, .ref (ad 0)), (1, .int p1), (3, .int x3)]) S.1 S.2.1 dX7_join_67 rfl hl (by decide) rfl (fun ls hl => ?_)
              refine lv_iinc (v := x3 + (-1 : Int32)) (lv' := [(3, .int (x3 + (-1 : Int32))), (2, .int x3), (0, .ref (ad 0)), (1, .int p1)]) S.1 S.2.1 dX7_join_68 hl (k := 3) rfl rfl (by decide) rfl (fun ls hl => ?_)
              refine lv_goto (tgt := 32) S.1 S.2.1 dX7_join_71 (by decide) ?_
              exact ih _ _ _ _ h _ _ _ (lv_sub hl [2, 3, 1, 0] rfl) hW K
            · replace h := (if_neg c12).symm.trans h
              refine lv_iload_n S.1 S.2.1 dX7_join_51 rfl (lv_at hl 3 rfl) ?_
              obtain ⟨v14, u13, h⟩ := bP_some h
              refine fl_doneP (fl_runS S (kX7_ones l x3 v14 u13) (va_cwS 1 S.2.2.2.2 (gS q_351 q_352 q_291 q_350) rfl rfl rfl (by decide +kernel) ⟨Nat.le_of_ble_eq_true rfl, Nat.le_of_ble_eq_true rfl⟩) rfl hl.1 rfl (Nat.le_of_ble_eq_true rfl) dX7_join_52 ⟨Nat.zero_le _, Nat.zero_le _⟩) hW (fun H locs hW => ?_)
              refine lv_iload_n S.1 S.2.1 dX7_join_55 rfl (lv_at hl 2 rfl) ?_
              obtain ⟨v16, u15, h⟩ := bP_some h
              refine fl_doneP (fl_runS S (kX7_ones l x2 v16 u15) (va_cwS 1 S.2.2.2.2 (gS q_351 q_352 q_291 q_350) rfl rfl rfl (by decide +kernel) ⟨Nat.le_of_ble_eq_true rfl, Nat.le_of_ble_eq_true rfl⟩) rfl hl.1 rfl (Nat.le_of_ble_eq_true rfl) dX7_join_56 ⟨Nat.zero_le _, Nat.zero_le _⟩) hW (fun H locs hW => ?_)
              refine lv_icmp_gt (tgt := 66) S.1 S.2.1 dX7_join_59 (by decide) (fun c17 => ?_) (fun c17 => ?_)
              · replace h := (if_pos c17).symm.trans h
                refine lv_iload_n S.1 S.2.1 dX7_join_66 rfl (lv_at hl 2 rfl) ?_
                refine lv_istore_n (lv' := [(2, .int x2), (0, .ref (ad 0)), (1, .int p1), (3, .int x3)]) S.1 S.2.1 dX7_join_67 rfl hl (by decide) rfl (fun ls hl => ?_)
                refine lv_iinc (v := x3 + (-1 : Int32)) (lv' := [(3, .int (x3 + (-1 : Int32))), (2, .int x2), (0, .ref (ad 0)), (1, .int p1)]) S.1 S.2.1 dX7_join_68 hl (k := 3) rfl rfl (by decide) rfl (fun ls hl => ?_)
                refine lv_goto (tgt := 32) S.1 S.2.1 dX7_join_71 (by decide) ?_
                exact ih _ _ _ _ h _ _ _ (lv_sub hl [2, 3, 1, 0] rfl) hW K
              · replace h := (if_neg c17).symm.trans h
                refine lv_iload_n S.1 S.2.1 dX7_join_62 rfl (lv_at hl 3 rfl) ?_
                refine lv_goto (tgt := 67) S.1 S.2.1 dX7_join_63 (by decide) ?_
                refine lv_istore_n (lv' := [(2, .int x3), (0, .ref (ad 0)), (1, .int p1), (3, .int x3)]) S.1 S.2.1 dX7_join_67 rfl hl (by decide) rfl (fun ls hl => ?_)
                refine lv_iinc (v := x3 + (-1 : Int32)) (lv' := [(3, .int (x3 + (-1 : Int32))), (2, .int x3), (0, .ref (ad 0)), (1, .int p1)]) S.1 S.2.1 dX7_join_68 hl (k := 3) rfl rfl (by decide) rfl (fun ls hl => ?_)
                refine lv_goto (tgt := 32) S.1 S.2.1 dX7_join_71 (by decide) ?_
                exact ih _ _ _ _ h _ _ _ (lv_sub hl [2, 3, 1, 0] rfl) hW K
    obtain ⟨w6, w7, u18, h⟩ := b2_some h
    refine L32 50000 _ _ _ _ u18 _ _ _ (lv_sub hl [2, 3, 1, 0] rfl) hW (fun H locs ls hl hW => ?_)
    clear L32
    refine lv_iload_n S.1 S.2.1 dX7_join_74 rfl (lv_at hl 2 rfl) ?_
    obtain ⟨rfl, rfl⟩ := s2 h
    exact fl_iret S.1 S.2.1 hr hlocks hW dX7_join_75
  · replace h := (if_pos c5).symm.trans h
    refine lv_iconst (v := (-1 : Int32)) S.1 S.2.1 dX7_join_16 (by decide) ?_
    obtain ⟨rfl, rfl⟩ := s2 h
    exact fl_iret S.1 S.2.1 hr hlocks hW dX7_join_17

def fX4_add (p1 : Int32) (M : Mm) : Option (Mm) :=
  ix (M.1 1 1) 120 (lt (wI M 2 (M.1 1 1).toNatClampNeg p1) (fun (M2 : Mm) => lt (wI M2 1 1 ((M2.1 1 1) + (1 : Int32))) (fun (M4 : Mm) => some M4)))
set_option maxHeartbeats 4000000 in
set_option maxRecDepth 100000 in
theorem kX4_add (l : Launch) {D : va_G} {cy : Nat → ClassId} {ad : Nat → Nat} (hJ : Inj ad 80)  (p1 : Int32) (M : Mm) (M' : Mm) (h : fX4_add p1 M = some M') : Met l yX4_add vX4_add ({ frames := 0, cells := 0, slots := 0, locals := 0 } : Room) (PcF [.ref (ad 1), .int p1] D cy ad kdV shC rfC 80 M) (QcV D cy ad kdV shC rfC 80 M') 0 0 (AV ad 80) := by
  refine Met.ofW (cc := cX4_add) (maxL := 2) (ret := none) (by decide) rfl ?_
  intro p e s m args below meth c s₁ B hml hv
  obtain ⟨rfl, hP, hK, hN⟩ := hv
  have hr := B.returns
  have hlocks := B.notSynchronized
  have S : CallFix p m c cX4_add 2 s ([.ref (ad 1), .int p1] : List Value).toArray vX4_add RX4 := ⟨B.exec, B.bytes, hml, findClass_of_methodNamed B.named, atoms_spec (ws := vX4_add) B.pre⟩
  have hq : ∀ w ∈ GW, w.before ([.ref (ad 1), .int p1] : List Value).toArray s = true := fun w h => S.2.2.2.2 w (List.mem_cons_of_mem _ h)
  have hA : ∀ k, k < 80 → AV ad 80 (ad k) := fun k hk => ⟨k, hk, rfl⟩
  have hW : WSt D cy ad kdV shC rfC 80 (AV ad 80) M s.heap s.heap [] := ⟨hP, va_S.rf⟩
  clear hP
  have iX4 : ∀ w ∈ wsX40, w ∈ vX4_add := fun w h => List.mem_cons_of_mem _ (inX4 w h)
  have hl := lv_entry ([.ref (ad 1), .int p1]) (n := 2) (Nat.le_of_ble_eq_true rfl)
  rw [lg_entry_eq]
  generalize (lg_sl ([.ref (ad 1), .int p1]) ++ List.replicate (2 - (lg_sl ([.ref (ad 1), .int p1])).length) Slot.unset).toArray = ls at hl ⊢
  have hl : lv_has ls 2 [(0, .ref (ad 1)), (1, .int p1)] := hl
  rw [fX4_add] at h
  refine lv_aload_n S.1 S.2.1 dX4_add_0 rfl (lv_at hl 0 rfl) ?_
  refine fl_get S hK iX4 rfl lC_1 sC_1 0 (by decide) (hq _ q_64) (fun _ h9 => h9) (fvs_R rfl rfl) hW dX4_add_1 ?_
  refine lv_aload_n S.1 S.2.1 dX4_add_4 rfl (lv_at hl 0 rfl) ?_
  refine fl_get S hK iX4 rfl lC_1 sC_1 1 (by decide) (hq _ q_65) (fun _ h9 => h9) (fvs_I rfl) hW dX4_add_5 ?_
  refine lv_iload_n S.1 S.2.1 dX4_add_8 rfl (lv_at hl 1 rfl) ?_
  obtain ⟨g1, h⟩ := ix_some h
  refine fl_iast S hK hJ hA lC_2 sC_2 g1 hW dX4_add_9 (fun H locs hW => ?_)
  obtain ⟨M2, e3, h⟩ := lt_some h
  rw [e3] at hW
  clear e3
  refine lv_aload_n S.1 S.2.1 dX4_add_10 rfl (lv_at hl 0 rfl) ?_
  refine lv_dup S.1 S.2.1 dX4_add_11 rfl ?_
  refine fl_get S hK iX4 rfl lC_1 sC_1 1 (by decide) (hq _ q_65) (fun _ h9 => h9) (fvs_I rfl) hW dX4_add_12 ?_
  refine lv_iconst (v := (1 : Int32)) S.1 S.2.1 dX4_add_15 (by decide) ?_
  refine lv_iadd S.1 S.2.1 dX4_add_16 ?_
  refine fl_put S hK hJ hA tyX4 tyX4_ok nmX4 iX4 rfl lC_1 sC_1 1 (by decide) (hq _ q_65) (fun _ h9 => h9) rfl (ty := .int) rfl rfl rfl (wI M2 1 1 ((M2.1 1 1) + (1 : Int32))) (by decide) (fvs_setI _ _ _ _ _ _ _ rfl) (fun j _ hj => cof_wI_ne hj) hW dX4_add_17 (fun H locs hW => ?_)
  obtain ⟨M4, e5, h⟩ := lt_some h
  rw [e5] at hW
  clear e5
  obtain rfl := s1 h
  exact fl_vret S.1 S.2.1 hr hlocks hW dX4_add_20
def fX4_readDigits_L25  : Nat → Mm → Option (Mm)
  | 0, _ => none
  | n + 1, Ml => if (Ml.1 1 1) ≤ (Ml.1 1 2) then (some Ml) else (ix (Ml.1 1 2) 120 (bP (fX4_isDigit (Ml.1 2 (Ml.1 1 2).toNatClampNeg)) (fun (v11 : Int32) => if v11 = 0 then (some Ml) else (ix (Ml.1 1 2) 120 (lt (wI Ml 1 5 (if (100 : Int32) < ((((Ml.1 1 5) * (10 : Int32)) + (Ml.1 2 (Ml.1 1 2).toNatClampNeg)) - (48 : Int32)) then (100 : Int32) else ((((Ml.1 1 5) * (10 : Int32)) + (Ml.1 2 (Ml.1 1 2).toNatClampNeg)) - (48 : Int32)))) (fun (M14 : Mm) => lt (wI M14 1 2 ((M14.1 1 2) + (1 : Int32))) (fun (M16 : Mm) => fX4_readDigits_L25 n M16)))))))
def fX4_readDigits (M : Mm) : Option (Mm) :=
  ix (M.1 1 2) 120 (bP (if (M.1 2 (M.1 1 2).toNatClampNeg) = (48 : Int32) then (some (1 : Int32)) else (some (0 : Int32))) (fun (j3 : Int32) => lt (wI M 1 5 (0 : Int32)) (fun (M5 : Mm) => bP (fX4_readDigits_L25 50000 M5) (fun (M7 : Mm) => if j3 = 0 then (some M7) else (if ((M7.1 1 2) - (M7.1 1 3)) ≤ (1 : Int32) then (some M7) else (lt (wI M7 1 5 (100 : Int32)) (fun (M20 : Mm) => some M20)))))))
set_option maxHeartbeats 4000000 in
set_option maxRecDepth 100000 in
theorem kX4_readDigits (l : Launch) {D : va_G} {cy : Nat → ClassId} {ad : Nat → Nat} (hJ : Inj ad 80)   (M : Mm) (M' : Mm) (h : fX4_readDigits M = some M') : Met l yX4_readDigits vX4_readDigits ({ frames := 1, cells := 0, slots := 0, locals := 24 } : Room) (PcF [.ref (ad 1)] D cy ad kdV shC rfC 80 M) (QcV D cy ad kdV shC rfC 80 M') 0 0 (AV ad 80) := by
  refine Met.ofW (cc := cX4_readDigits) (maxL := 2) (ret := none) (by decide) rfl ?_
  intro p e s m args below meth c s₁ B hml hv
  obtain ⟨rfl, hP, hK, hN⟩ := hv
  have hr := B.returns
  have hlocks := B.notSynchronized
  have S : CallFix p m c cX4_readDigits 2 s ([.ref (ad 1)] : List Value).toArray vX4_readDigits RX4 := ⟨B.exec, B.bytes, hml, findClass_of_methodNamed B.named, atoms_spec (ws := vX4_readDigits) B.pre⟩
  have hq : ∀ w ∈ GW, w.before ([.ref (ad 1)] : List Value).toArray s = true := fun w h => S.2.2.2.2 w (List.mem_cons_of_mem _ h)
  have hA : ∀ k, k < 80 → AV ad 80 (ad k) := fun k hk => ⟨k, hk, rfl⟩
  have hW : WSt D cy ad kdV shC rfC 80 (AV ad 80) M s.heap s.heap [] := ⟨hP, va_S.rf⟩
  clear hP
  have iX4 : ∀ w ∈ wsX40, w ∈ vX4_readDigits := fun w h => List.mem_cons_of_mem _ (inX4 w h)
  have hl := lv_entry ([.ref (ad 1)]) (n := 2) (Nat.le_of_ble_eq_true rfl)
  rw [lg_entry_eq]
  generalize (lg_sl ([.ref (ad 1)]) ++ List.replicate (2 - (lg_sl ([.ref (ad 1)])).length) Slot.unset).toArray = ls at hl ⊢
  have hl : lv_has ls 2 [(0, .ref (ad 1))] := hl
  rw [fX4_readDigits] at h
  refine lv_aload_n S.1 S.2.1 dX4_readDigits_0 rfl (lv_at hl 0 rfl) ?_
  refine fl_get S hK iX4 rfl lC_1 sC_1 0 (by decide) (hq _ q_64) (fun _ h9 => h9) (fvs_R rfl rfl) hW dX4_readDigits_1 ?_
  refine lv_aload_n S.1 S.2.1 dX4_readDigits_4 rfl (lv_at hl 0 rfl) ?_
  refine fl_get S hK iX4 rfl lC_1 sC_1 2 (by decide) (hq _ q_71) (fun _ h9 => h9) (fvs_I rfl) hW dX4_readDigits_5 ?_
  obtain ⟨g1, h⟩ := ix_some h
  refine fl_iald S hK lC_2 sC_2 g1 hW dX4_readDigits_8 ?_
  refine lv_bipush (v := (48 : Int32)) S.1 S.2.1 dX4_readDigits_9 (by decide) ?_
  obtain ⟨j3, u23, h⟩ := bP_some h
  have J4 : ∀ (H : Heap) (locs : List Loc) (ls : Array Slot), lv_has ls 2 [(0, .ref (ad 1))] → WSt D cy ad kdV shC rfC 80 (AV ad 80) M s.heap H locs → W p l e (headSpec vX4_readDigits ({ frames := 1, cells := 0, slots := 0, locals := 24 } : Room)).room s m ([.ref (ad 1)] : List Value).toArray below meth c H locs 0 0 (MQ below (QcV D cy ad kdV shC rfC 80 M') ([.ref (ad 1)] : List Value).toArray s 0 0 (AV ad 80)) (F0 m 19 ls [.int j3]) := by
    intro H locs ls hl hW
    refine lv_istore_n (lv' := [(1, .int j3), (0, .ref (ad 1))]) S.1 S.2.1 dX4_readDigits_19 rfl hl (by decide) rfl (fun ls hl => ?_)
    refine lv_aload_n S.1 S.2.1 dX4_readDigits_20 rfl (lv_at hl 1 rfl) ?_
    refine lv_iconst (v := (0 : Int32)) S.1 S.2.1 dX4_readDigits_21 (by decide) ?_
    refine fl_put S hK hJ hA tyX4 tyX4_ok nmX4 iX4 rfl lC_1 sC_1 5 (by decide) (hq _ q_72) (fun _ h9 => h9) rfl (ty := .int) rfl rfl rfl (wI M 1 5 (0 : Int32)) (by decide) (fvs_setI _ _ _ _ _ _ _ rfl) (fun j _ hj => cof_wI_ne hj) hW dX4_readDigits_22 (fun H locs hW => ?_)
    obtain ⟨M5, e6, h⟩ := lt_some h
    rw [e6] at hW
    clear e6
    have L25 : ∀ (n : Nat) (Ml : Mm) (M7 : Mm), fX4_readDigits_L25 n Ml = some M7 → ∀ (H : Heap) (locs : List Loc) (ls : Array Slot), lv_has ls 2 [(0, .ref (ad 1)), (1, .int j3)] → WSt D cy ad kdV shC rfC 80 (AV ad 80) Ml s.heap H locs → (∀ (H : Heap) (locs : List Loc) (ls : Array Slot), lv_has ls 2 [(0, .ref (ad 1)), (1, .int j3)] → WSt D cy ad kdV shC rfC 80 (AV ad 80) M7 s.heap H locs → W p l e (headSpec vX4_readDigits ({ frames := 1, cells := 0, slots := 0, locals := 24 } : Room)).room s m ([.ref (ad 1)] : List Value).toArray below meth c H locs 0 0 (MQ below (QcV D cy ad kdV shC rfC 80 M') ([.ref (ad 1)] : List Value).toArray s 0 0 (AV ad 80)) (F0 m 93 ls [])) → W p l e (headSpec vX4_readDigits ({ frames := 1, cells := 0, slots := 0, locals := 24 } : Room)).room s m ([.ref (ad 1)] : List Value).toArray below meth c H locs 0 0 (MQ below (QcV D cy ad kdV shC rfC 80 M') ([.ref (ad 1)] : List Value).toArray s 0 0 (AV ad 80)) (F0 m 25 ls []) := by
      intro n
      induction n with
      | zero => intro Ml M7 h; cases h
      | succ n ih =>
        intro Ml M7 h H locs ls hl hW K
        rw [fX4_readDigits_L25] at h
        refine lv_aload_n S.1 S.2.1 dX4_readDigits_25 rfl (lv_at hl 0 rfl) ?_
        refine fl_get S hK iX4 rfl lC_1 sC_1 2 (by decide) (hq _ q_71) (fun _ h9 => h9) (fvs_I rfl) hW dX4_readDigits_26 ?_
        refine lv_aload_n S.1 S.2.1 dX4_readDigits_29 rfl (lv_at hl 0 rfl) ?_
        refine fl_get S hK iX4 rfl lC_1 sC_1 1 (by decide) (hq _ q_65) (fun _ h9 => h9) (fvs_I rfl) hW dX4_readDigits_30 ?_
        refine lv_icmp_ge (tgt := 93) S.1 S.2.1 dX4_readDigits_33 (by decide) (fun c8 => ?_) (fun c8 => ?_)
        · replace h := (if_pos c8).symm.trans h
          obtain rfl := s1 h
          exact K _ _ _ hl hW
        · replace h := (if_neg c8).symm.trans h
          refine lv_aload_n S.1 S.2.1 dX4_readDigits_36 rfl (lv_at hl 0 rfl) ?_
          refine fl_get S hK iX4 rfl lC_1 sC_1 0 (by decide) (hq _ q_64) (fun _ h9 => h9) (fvs_R rfl rfl) hW dX4_readDigits_37 ?_
          refine lv_aload_n S.1 S.2.1 dX4_readDigits_40 rfl (lv_at hl 0 rfl) ?_
          refine fl_get S hK iX4 rfl lC_1 sC_1 2 (by decide) (hq _ q_71) (fun _ h9 => h9) (fvs_I rfl) hW dX4_readDigits_41 ?_
          obtain ⟨g9, h⟩ := ix_some h
          refine fl_iald S hK lC_2 sC_2 g9 hW dX4_readDigits_44 ?_
          obtain ⟨v11, u10, h⟩ := bP_some h
          refine fl_doneP (fl_runS S (kX4_isDigit l (Ml.1 2 (Ml.1 1 2).toNatClampNeg) v11 u10) (va_cwS 1 S.2.2.2.2 (gS q_74 q_75 q_76 q_73) rfl rfl rfl (by decide +kernel) ⟨Nat.le_of_ble_eq_true rfl, Nat.le_of_ble_eq_true rfl⟩) rfl hl.1 rfl (Nat.le_of_ble_eq_true rfl) dX4_readDigits_45 ⟨Nat.zero_le _, Nat.zero_le _⟩) hW (fun H locs hW => ?_)
          refine lv_if_eq (tgt := 93) S.1 S.2.1 dX4_readDigits_48 (by decide) (fun c12 => ?_) (fun c12 => ?_)
          · replace h := (if_pos c12).symm.trans h
            obtain rfl := s1 h
            exact K _ _ _ hl hW
          · replace h := (if_neg c12).symm.trans h
            refine lv_aload_n S.1 S.2.1 dX4_readDigits_51 rfl (lv_at hl 0 rfl) ?_
            refine lv_aload_n S.1 S.2.1 dX4_readDigits_52 rfl (lv_at hl 0 rfl) ?_
            refine fl_get S hK iX4 rfl lC_1 sC_1 5 (by decide) (hq _ q_72) (fun _ h9 => h9) (fvs_I rfl) hW dX4_readDigits_53 ?_
            refine lv_bipush (v := (10 : Int32)) S.1 S.2.1 dX4_readDigits_56 (by decide) ?_
            refine lv_imul S.1 S.2.1 dX4_readDigits_58 ?_
            refine lv_aload_n S.1 S.2.1 dX4_readDigits_59 rfl (lv_at hl 0 rfl) ?_
            refine fl_get S hK iX4 rfl lC_1 sC_1 0 (by decide) (hq _ q_64) (fun _ h9 => h9) (fvs_R rfl rfl) hW dX4_readDigits_60 ?_
            refine lv_aload_n S.1 S.2.1 dX4_readDigits_63 rfl (lv_at hl 0 rfl) ?_
            refine fl_get S hK iX4 rfl lC_1 sC_1 2 (by decide) (hq _ q_71) (fun _ h9 => h9) (fvs_I rfl) hW dX4_readDigits_64 ?_
            obtain ⟨g13, h⟩ := ix_some h
            refine fl_iald S hK lC_2 sC_2 g13 hW dX4_readDigits_67 ?_
            refine lv_iadd S.1 S.2.1 dX4_readDigits_68 ?_
            refine lv_bipush (v := (48 : Int32)) S.1 S.2.1 dX4_readDigits_69 (by decide) ?_
            refine lv_isub S.1 S.2.1 dX4_readDigits_71 ?_
            refine lv_bipush (v := (100 : Int32)) S.1 S.2.1 dX4_readDigits_72 (by decide) ?_
            refine va_mmin S.1 S.2.1 (S.2.2.1.trans hl.1.symm) S.2.2.2.1 (hq _ q_77) (hq _ q_53) (hq _ q_16) (hq _ q_54) (Nat.le_of_ble_eq_true rfl) (Nat.le_of_ble_eq_true rfl) (Nat.zero_le _) (Nat.zero_le _) dX4_readDigits_74 ?_
            refine fl_put S hK hJ hA tyX4 tyX4_ok nmX4 iX4 rfl lC_1 sC_1 5 (by decide) (hq _ q_72) (fun _ h9 => h9) rfl (ty := .int) rfl rfl rfl (wI Ml 1 5 (if (100 : Int32) < ((((Ml.1 1 5) * (10 : Int32)) + (Ml.1 2 (Ml.1 1 2).toNatClampNeg)) - (48 : Int32)) then (100 : Int32) else ((((Ml.1 1 5) * (10 : Int32)) + (Ml.1 2 (Ml.1 1 2).toNatClampNeg)) - (48 : Int32)))) (by decide) (fvs_setI _ _ _ _ _ _ _ rfl) (fun j _ hj => cof_wI_ne hj) hW dX4_readDigits_77 (fun H locs hW => ?_)
            obtain ⟨M14, e15, h⟩ := lt_some h
            rw [e15] at hW
            clear e15
            refine lv_aload_n S.1 S.2.1 dX4_readDigits_80 rfl (lv_at hl 0 rfl) ?_
            refine lv_dup S.1 S.2.1 dX4_readDigits_81 rfl ?_
            refine fl_get S hK iX4 rfl lC_1 sC_1 2 (by decide) (hq _ q_71) (fun _ h9 => h9) (fvs_I rfl) hW dX4_readDigits_82 ?_
            refine lv_iconst (v := (1 : Int32)) S.1 S.2.1 dX4_readDigits_85 (by decide) ?_
            refine lv_iadd S.1 S.2.1 dX4_readDigits_86 ?_
            refine fl_put S hK hJ hA tyX4 tyX4_ok nmX4 iX4 rfl lC_1 sC_1 2 (by decide) (hq _ q_71) (fun _ h9 => h9) rfl (ty := .int) rfl rfl rfl (wI M14 1 2 ((M14.1 1 2) + (1 : Int32))) (by decide) (fvs_setI _ _ _ _ _ _ _ rfl) (fun j _ hj => cof_wI_ne hj) hW dX4_readDigits_87 (fun H locs hW => ?_)
            obtain ⟨M16, e17, h⟩ := lt_some h
            rw [e17] at hW
            clear e17
            refine lv_goto (tgt := 25) S.1 S.2.1 dX4_readDigits_90 (by decide) ?_
            exact ih _ _ h _ _ _ hl hW K
    obtain ⟨M7, u22, h⟩ := bP_some h
    refine L25 50000 _ _ u22 _ _ _ (lv_sub hl [1, 0] rfl) hW (fun H locs ls hl hW => ?_)
    clear L25
    refine lv_iload_n S.1 S.2.1 dX4_readDigits_93 rfl (lv_at hl 1 rfl) ?_
    refine lv_if_eq (tgt := 116) S.1 S.2.1 dX4_readDigits_94 (by decide) (fun c18 => ?_) (fun c18 => ?_)
    · replace h := (if_pos c18).symm.trans h
      obtain rfl := s1 h
      exact fl_vret S.1 S.2.1 hr hlocks hW dX4_readDigits_116
    · replace h := (if_neg c18).symm.trans h
      refine lv_aload_n S.1 S.2.1 dX4_readDigits_97 rfl (lv_at hl 0 rfl) ?_
      refine fl_get S hK iX4 rfl lC_1 sC_1 2 (by decide) (hq _ q_71) (fun _ h9 => h9) (fvs_I rfl) hW dX4_readDigits_98 ?_
      refine lv_aload_n S.1 S.2.1 dX4_readDigits_101 rfl (lv_at hl 0 rfl) ?_
      refine fl_get S hK iX4 rfl lC_1 sC_1 3 (by decide) (hq _ q_78) (fun _ h9 => h9) (fvs_I rfl) hW dX4_readDigits_102 ?_
      refine lv_isub S.1 S.2.1 dX4_readDigits_105 ?_
      refine lv_iconst (v := (1 : Int32)) S.1 S.2.1 dX4_readDigits_106 (by decide) ?_
      refine lv_icmp_le (tgt := 116) S.1 S.2.1 dX4_readDigits_107 (by decide) (fun c19 => ?_) (fun c19 => ?_)
      · replace h := (if_pos c19).symm.trans h
        obtain rfl := s1 h
        exact fl_vret S.1 S.2.1 hr hlocks hW dX4_readDigits_116
      · replace h := (if_neg c19).symm.trans h
        refine lv_aload_n S.1 S.2.1 dX4_readDigits_110 rfl (lv_at hl 0 rfl) ?_
        refine lv_bipush (v := (100 : Int32)) S.1 S.2.1 dX4_readDigits_111 (by decide) ?_
        refine fl_put S hK hJ hA tyX4 tyX4_ok nmX4 iX4 rfl lC_1 sC_1 5 (by decide) (hq _ q_72) (fun _ h9 => h9) rfl (ty := .int) rfl rfl rfl (wI M7 1 5 (100 : Int32)) (by decide) (fvs_setI _ _ _ _ _ _ _ rfl) (fun j _ hj => cof_wI_ne hj) hW dX4_readDigits_113 (fun H locs hW => ?_)
        obtain ⟨M20, e21, h⟩ := lt_some h
        rw [e21] at hW
        clear e21
        obtain rfl := s1 h
        exact fl_vret S.1 S.2.1 hr hlocks hW dX4_readDigits_116
  clear h
  have h := u23
  clear u23
  refine lv_icmp_ne (tgt := 18) S.1 S.2.1 dX4_readDigits_11 (by decide) (fun c2 => ?_) (fun c2 => ?_)
  · replace h := (if_neg c2).symm.trans h
    refine lv_iconst (v := (0 : Int32)) S.1 S.2.1 dX4_readDigits_18 (by decide) ?_
    obtain rfl := s1 h
    exact J4 _ _ _ hl hW
  · replace h := (if_pos c2).symm.trans h
    refine lv_iconst (v := (1 : Int32)) S.1 S.2.1 dX4_readDigits_14 (by decide) ?_
    refine lv_goto (tgt := 19) S.1 S.2.1 dX4_readDigits_15 (by decide) ?_
    obtain rfl := s1 h
    exact J4 _ _ _ hl hW
def fX4_readToken_L0  : Nat → Mm → Option (Mm)
  | 0, _ => none
  | n + 1, Ml => if (Ml.1 1 1) ≤ (Ml.1 1 2) then (some Ml) else (ix (Ml.1 1 2) 120 (if (Ml.1 2 (Ml.1 1 2).toNatClampNeg) = (32 : Int32) then (lt (wI Ml 1 2 ((Ml.1 1 2) + (1 : Int32))) (fun (M5 : Mm) => fX4_readToken_L0 n M5)) else (some Ml)))
def fX4_readToken (M : Mm) : Option (Mm) :=
  bP (fX4_readToken_L0 50000 M) (fun (M1 : Mm) => lt (wI M1 1 3 (M1.1 1 2)) (fun (M7 : Mm) => if (M7.1 1 2) < (M7.1 1 1) then (ix (M7.1 1 2) 120 (bP (fX4_isDigit (M7.1 2 (M7.1 1 2).toNatClampNeg)) (fun (v12 : Int32) => if v12 = 0 then (ix (M7.1 1 2) 120 (lt (wI M7 1 4 (M7.1 2 (M7.1 1 2).toNatClampNeg)) (fun (M15 : Mm) => lt (wI M15 1 2 ((M15.1 1 2) + (1 : Int32))) (fun (M17 : Mm) => some M17)))) else (lt (wI M7 1 4 (-2 : Int32)) (fun (M19 : Mm) => bP (fX4_readDigits M19) (fun (M22 : Mm) => some M22)))))) else (lt (wI M7 1 4 (-1 : Int32)) (fun (M23 : Mm) => some M23))))
set_option maxHeartbeats 4000000 in
set_option maxRecDepth 100000 in
theorem kX4_readToken (l : Launch) {D : va_G} {cy : Nat → ClassId} {ad : Nat → Nat} (hJ : Inj ad 80)   (M : Mm) (M' : Mm) (h : fX4_readToken M = some M') : Met l yX4_readToken vX4_readToken ({ frames := 2, cells := 0, slots := 0, locals := 45 } : Room) (PcF [.ref (ad 1)] D cy ad kdV shC rfC 80 M) (QcV D cy ad kdV shC rfC 80 M') 0 0 (AV ad 80) := by
  refine Met.ofW (cc := cX4_readToken) (maxL := 1) (ret := none) (by decide) rfl ?_
  intro p e s m args below meth c s₁ B hml hv
  obtain ⟨rfl, hP, hK, hN⟩ := hv
  have hr := B.returns
  have hlocks := B.notSynchronized
  have S : CallFix p m c cX4_readToken 1 s ([.ref (ad 1)] : List Value).toArray vX4_readToken RX4 := ⟨B.exec, B.bytes, hml, findClass_of_methodNamed B.named, atoms_spec (ws := vX4_readToken) B.pre⟩
  have hq : ∀ w ∈ GW, w.before ([.ref (ad 1)] : List Value).toArray s = true := fun w h => S.2.2.2.2 w (List.mem_cons_of_mem _ h)
  have hA : ∀ k, k < 80 → AV ad 80 (ad k) := fun k hk => ⟨k, hk, rfl⟩
  have hW : WSt D cy ad kdV shC rfC 80 (AV ad 80) M s.heap s.heap [] := ⟨hP, va_S.rf⟩
  clear hP
  have iX4 : ∀ w ∈ wsX40, w ∈ vX4_readToken := fun w h => List.mem_cons_of_mem _ (inX4 w h)
  have hl := lv_entry ([.ref (ad 1)]) (n := 1) (Nat.le_of_ble_eq_true rfl)
  rw [lg_entry_eq]
  generalize (lg_sl ([.ref (ad 1)]) ++ List.replicate (1 - (lg_sl ([.ref (ad 1)])).length) Slot.unset).toArray = ls at hl ⊢
  have hl : lv_has ls 1 [(0, .ref (ad 1))] := hl
  rw [fX4_readToken] at h
  have L0 : ∀ (n : Nat) (Ml : Mm) (M1 : Mm), fX4_readToken_L0 n Ml = some M1 → ∀ (H : Heap) (locs : List Loc) (ls : Array Slot), lv_has ls 1 [(0, .ref (ad 1))] → WSt D cy ad kdV shC rfC 80 (AV ad 80) Ml s.heap H locs → (∀ (H : Heap) (locs : List Loc) (ls : Array Slot), lv_has ls 1 [(0, .ref (ad 1))] → WSt D cy ad kdV shC rfC 80 (AV ad 80) M1 s.heap H locs → W p l e (headSpec vX4_readToken ({ frames := 2, cells := 0, slots := 0, locals := 45 } : Room)).room s m ([.ref (ad 1)] : List Value).toArray below meth c H locs 0 0 (MQ below (QcV D cy ad kdV shC rfC 80 M') ([.ref (ad 1)] : List Value).toArray s 0 0 (AV ad 80)) (F0 m 38 ls [])) → W p l e (headSpec vX4_readToken ({ frames := 2, cells := 0, slots := 0, locals := 45 } : Room)).room s m ([.ref (ad 1)] : List Value).toArray below meth c H locs 0 0 (MQ below (QcV D cy ad kdV shC rfC 80 M') ([.ref (ad 1)] : List Value).toArray s 0 0 (AV ad 80)) (F0 m 0 ls []) := by
    intro n
    induction n with
    | zero => intro Ml M1 h; cases h
    | succ n ih =>
      intro Ml M1 h H locs ls hl hW K
      rw [fX4_readToken_L0] at h
      refine lv_aload_n S.1 S.2.1 dX4_readToken_0 rfl (lv_at hl 0 rfl) ?_
      refine fl_get S hK iX4 rfl lC_1 sC_1 2 (by decide) (hq _ q_71) (fun _ h9 => h9) (fvs_I rfl) hW dX4_readToken_1 ?_
      refine lv_aload_n S.1 S.2.1 dX4_readToken_4 rfl (lv_at hl 0 rfl) ?_
      refine fl_get S hK iX4 rfl lC_1 sC_1 1 (by decide) (hq _ q_65) (fun _ h9 => h9) (fvs_I rfl) hW dX4_readToken_5 ?_
      refine lv_icmp_ge (tgt := 38) S.1 S.2.1 dX4_readToken_8 (by decide) (fun c2 => ?_) (fun c2 => ?_)
      · replace h := (if_pos c2).symm.trans h
        obtain rfl := s1 h
        exact K _ _ _ hl hW
      · replace h := (if_neg c2).symm.trans h
        refine lv_aload_n S.1 S.2.1 dX4_readToken_11 rfl (lv_at hl 0 rfl) ?_
        refine fl_get S hK iX4 rfl lC_1 sC_1 0 (by decide) (hq _ q_64) (fun _ h9 => h9) (fvs_R rfl rfl) hW dX4_readToken_12 ?_
        refine lv_aload_n S.1 S.2.1 dX4_readToken_15 rfl (lv_at hl 0 rfl) ?_
        refine fl_get S hK iX4 rfl lC_1 sC_1 2 (by decide) (hq _ q_71) (fun _ h9 => h9) (fvs_I rfl) hW dX4_readToken_16 ?_
        obtain ⟨g3, h⟩ := ix_some h
        refine fl_iald S hK lC_2 sC_2 g3 hW dX4_readToken_19 ?_
        refine lv_bipush (v := (32 : Int32)) S.1 S.2.1 dX4_readToken_20 (by decide) ?_
        refine lv_icmp_ne (tgt := 38) S.1 S.2.1 dX4_readToken_22 (by decide) (fun c4 => ?_) (fun c4 => ?_)
        · replace h := (if_neg c4).symm.trans h
          obtain rfl := s1 h
          exact K _ _ _ hl hW
        · replace h := (if_pos c4).symm.trans h
          refine lv_aload_n S.1 S.2.1 dX4_readToken_25 rfl (lv_at hl 0 rfl) ?_
          refine lv_dup S.1 S.2.1 dX4_readToken_26 rfl ?_
          refine fl_get S hK iX4 rfl lC_1 sC_1 2 (by decide) (hq _ q_71) (fun _ h9 => h9) (fvs_I rfl) hW dX4_readToken_27 ?_
          refine lv_iconst (v := (1 : Int32)) S.1 S.2.1 dX4_readToken_30 (by decide) ?_
          refine lv_iadd S.1 S.2.1 dX4_readToken_31 ?_
          refine fl_put S hK hJ hA tyX4 tyX4_ok nmX4 iX4 rfl lC_1 sC_1 2 (by decide) (hq _ q_71) (fun _ h9 => h9) rfl (ty := .int) rfl rfl rfl (wI Ml 1 2 ((Ml.1 1 2) + (1 : Int32))) (by decide) (fvs_setI _ _ _ _ _ _ _ rfl) (fun j _ hj => cof_wI_ne hj) hW dX4_readToken_32 (fun H locs hW => ?_)
          obtain ⟨M5, e6, h⟩ := lt_some h
          rw [e6] at hW
          clear e6
          refine lv_goto (tgt := 0) S.1 S.2.1 dX4_readToken_35 (by decide) ?_
          exact ih _ _ h _ _ _ hl hW K
  obtain ⟨M1, u25, h⟩ := bP_some h
  refine L0 50000 _ _ u25 _ _ _ hl hW (fun H locs ls hl hW => ?_)
  clear L0
  refine lv_aload_n S.1 S.2.1 dX4_readToken_38 rfl (lv_at hl 0 rfl) ?_
  refine lv_aload_n S.1 S.2.1 dX4_readToken_39 rfl (lv_at hl 0 rfl) ?_
  refine fl_get S hK iX4 rfl lC_1 sC_1 2 (by decide) (hq _ q_71) (fun _ h9 => h9) (fvs_I rfl) hW dX4_readToken_40 ?_
  refine fl_put S hK hJ hA tyX4 tyX4_ok nmX4 iX4 rfl lC_1 sC_1 3 (by decide) (hq _ q_78) (fun _ h9 => h9) rfl (ty := .int) rfl rfl rfl (wI M1 1 3 (M1.1 1 2)) (by decide) (fvs_setI _ _ _ _ _ _ _ rfl) (fun j _ hj => cof_wI_ne hj) hW dX4_readToken_43 (fun H locs hW => ?_)
  obtain ⟨M7, e8, h⟩ := lt_some h
  rw [e8] at hW
  clear e8
  refine lv_aload_n S.1 S.2.1 dX4_readToken_46 rfl (lv_at hl 0 rfl) ?_
  refine fl_get S hK iX4 rfl lC_1 sC_1 2 (by decide) (hq _ q_71) (fun _ h9 => h9) (fvs_I rfl) hW dX4_readToken_47 ?_
  refine lv_aload_n S.1 S.2.1 dX4_readToken_50 rfl (lv_at hl 0 rfl) ?_
  refine fl_get S hK iX4 rfl lC_1 sC_1 1 (by decide) (hq _ q_65) (fun _ h9 => h9) (fvs_I rfl) hW dX4_readToken_51 ?_
  refine lv_icmp_lt (tgt := 65) S.1 S.2.1 dX4_readToken_54 (by decide) (fun c9 => ?_) (fun c9 => ?_)
  · replace h := (if_pos c9).symm.trans h
    refine lv_aload_n S.1 S.2.1 dX4_readToken_65 rfl (lv_at hl 0 rfl) ?_
    refine fl_get S hK iX4 rfl lC_1 sC_1 0 (by decide) (hq _ q_64) (fun _ h9 => h9) (fvs_R rfl rfl) hW dX4_readToken_66 ?_
    refine lv_aload_n S.1 S.2.1 dX4_readToken_69 rfl (lv_at hl 0 rfl) ?_
    refine fl_get S hK iX4 rfl lC_1 sC_1 2 (by decide) (hq _ q_71) (fun _ h9 => h9) (fvs_I rfl) hW dX4_readToken_70 ?_
    obtain ⟨g10, h⟩ := ix_some h
    refine fl_iald S hK lC_2 sC_2 g10 hW dX4_readToken_73 ?_
    obtain ⟨v12, u11, h⟩ := bP_some h
    refine fl_doneP (fl_runS S (kX4_isDigit l (M7.1 2 (M7.1 1 2).toNatClampNeg) v12 u11) (va_cwS 1 S.2.2.2.2 (gS q_74 q_75 q_76 q_73) rfl rfl rfl (by decide +kernel) ⟨Nat.le_of_ble_eq_true rfl, Nat.le_of_ble_eq_true rfl⟩) rfl hl.1 rfl (Nat.le_of_ble_eq_true rfl) dX4_readToken_74 ⟨Nat.zero_le _, Nat.zero_le _⟩) hW (fun H locs hW => ?_)
    refine lv_if_eq (tgt := 93) S.1 S.2.1 dX4_readToken_77 (by decide) (fun c13 => ?_) (fun c13 => ?_)
    · replace h := (if_pos c13).symm.trans h
      refine lv_aload_n S.1 S.2.1 dX4_readToken_93 rfl (lv_at hl 0 rfl) ?_
      refine lv_aload_n S.1 S.2.1 dX4_readToken_94 rfl (lv_at hl 0 rfl) ?_
      refine fl_get S hK iX4 rfl lC_1 sC_1 0 (by decide) (hq _ q_64) (fun _ h9 => h9) (fvs_R rfl rfl) hW dX4_readToken_95 ?_
      refine lv_aload_n S.1 S.2.1 dX4_readToken_98 rfl (lv_at hl 0 rfl) ?_
      refine fl_get S hK iX4 rfl lC_1 sC_1 2 (by decide) (hq _ q_71) (fun _ h9 => h9) (fvs_I rfl) hW dX4_readToken_99 ?_
      obtain ⟨g14, h⟩ := ix_some h
      refine fl_iald S hK lC_2 sC_2 g14 hW dX4_readToken_102 ?_
      refine fl_put S hK hJ hA tyX4 tyX4_ok nmX4 iX4 rfl lC_1 sC_1 4 (by decide) (hq _ q_79) (fun _ h9 => h9) rfl (ty := .int) rfl rfl rfl (wI M7 1 4 (M7.1 2 (M7.1 1 2).toNatClampNeg)) (by decide) (fvs_setI _ _ _ _ _ _ _ rfl) (fun j _ hj => cof_wI_ne hj) hW dX4_readToken_103 (fun H locs hW => ?_)
      obtain ⟨M15, e16, h⟩ := lt_some h
      rw [e16] at hW
      clear e16
      refine lv_aload_n S.1 S.2.1 dX4_readToken_106 rfl (lv_at hl 0 rfl) ?_
      refine lv_dup S.1 S.2.1 dX4_readToken_107 rfl ?_
      refine fl_get S hK iX4 rfl lC_1 sC_1 2 (by decide) (hq _ q_71) (fun _ h9 => h9) (fvs_I rfl) hW dX4_readToken_108 ?_
      refine lv_iconst (v := (1 : Int32)) S.1 S.2.1 dX4_readToken_111 (by decide) ?_
      refine lv_iadd S.1 S.2.1 dX4_readToken_112 ?_
      refine fl_put S hK hJ hA tyX4 tyX4_ok nmX4 iX4 rfl lC_1 sC_1 2 (by decide) (hq _ q_71) (fun _ h9 => h9) rfl (ty := .int) rfl rfl rfl (wI M15 1 2 ((M15.1 1 2) + (1 : Int32))) (by decide) (fvs_setI _ _ _ _ _ _ _ rfl) (fun j _ hj => cof_wI_ne hj) hW dX4_readToken_113 (fun H locs hW => ?_)
      obtain ⟨M17, e18, h⟩ := lt_some h
      rw [e18] at hW
      clear e18
      obtain rfl := s1 h
      exact fl_vret S.1 S.2.1 hr hlocks hW dX4_readToken_116
    · replace h := (if_neg c13).symm.trans h
      refine lv_aload_n S.1 S.2.1 dX4_readToken_80 rfl (lv_at hl 0 rfl) ?_
      refine lv_bipush (v := (-2 : Int32)) S.1 S.2.1 dX4_readToken_81 (by decide) ?_
      refine fl_put S hK hJ hA tyX4 tyX4_ok nmX4 iX4 rfl lC_1 sC_1 4 (by decide) (hq _ q_79) (fun _ h9 => h9) rfl (ty := .int) rfl rfl rfl (wI M7 1 4 (-2 : Int32)) (by decide) (fvs_setI _ _ _ _ _ _ _ rfl) (fun j _ hj => cof_wI_ne hj) hW dX4_readToken_83 (fun H locs hW => ?_)
      obtain ⟨M19, e20, h⟩ := lt_some h
      rw [e20] at hW
      clear e20
      refine lv_aload_n S.1 S.2.1 dX4_readToken_86 rfl (lv_at hl 0 rfl) ?_
      obtain ⟨M22, u21, h⟩ := bP_some h
      refine fl_doneV (fl_runV S hK hN (kX4_readDigits l hJ M19 M22 u21) (cwV 0 S.2.2.2.2 (gV q_81 q_82 q_83 q_76 q_80) rfl rfl rfl (by decide +kernel) ⟨Nat.le_of_ble_eq_true rfl, Nat.le_of_ble_eq_true rfl⟩) (ci := 4) rfl lC_1 sC_1 rfl hl.1 rfl (Nat.le_of_ble_eq_true rfl) dX4_readToken_87 ⟨Nat.zero_le _, Nat.zero_le _⟩ hW) hA hW.2 (fun H locs hW => ?_)
      refine lv_goto (tgt := 116) S.1 S.2.1 dX4_readToken_90 (by decide) ?_
      obtain rfl := s1 h
      exact fl_vret S.1 S.2.1 hr hlocks hW dX4_readToken_116
  · replace h := (if_neg c9).symm.trans h
    refine lv_aload_n S.1 S.2.1 dX4_readToken_57 rfl (lv_at hl 0 rfl) ?_
    refine lv_iconst (v := (-1 : Int32)) S.1 S.2.1 dX4_readToken_58 (by decide) ?_
    refine fl_put S hK hJ hA tyX4 tyX4_ok nmX4 iX4 rfl lC_1 sC_1 4 (by decide) (hq _ q_79) (fun _ h9 => h9) rfl (ty := .int) rfl rfl rfl (wI M7 1 4 (-1 : Int32)) (by decide) (fvs_setI _ _ _ _ _ _ _ rfl) (fun j _ hj => cof_wI_ne hj) hW dX4_readToken_59 (fun H locs hW => ?_)
    obtain ⟨M23, e24, h⟩ := lt_some h
    rw [e24] at hW
    clear e24
    refine lv_goto (tgt := 116) S.1 S.2.1 dX4_readToken_62 (by decide) ?_
    obtain rfl := s1 h
    exact fl_vret S.1 S.2.1 hr hlocks hW dX4_readToken_116
def fX4_readsNumber (p1 : Int32) (p2 : Int32) (M : Mm) : Option (Int32 × Mm) :=
  bP (fX4_readToken M) (fun (M2 : Mm) => if (M2.1 1 4) = (-2 : Int32) then (if (M2.1 1 5) < p1 then (some ((0 : Int32), M2)) else (if p2 < (M2.1 1 5) then (some ((0 : Int32), M2)) else (some ((1 : Int32), M2)))) else (some ((0 : Int32), M2)))
set_option maxHeartbeats 4000000 in
set_option maxRecDepth 100000 in
theorem kX4_readsNumber (l : Launch) {D : va_G} {cy : Nat → ClassId} {ad : Nat → Nat} (hJ : Inj ad 80)  (p1 : Int32) (p2 : Int32) (M : Mm) (r : Int32) (M' : Mm) (h : fX4_readsNumber p1 p2 M = some (r, M')) : Met l yX4_readsNumber vX4_readsNumber ({ frames := 3, cells := 0, slots := 0, locals := 65 } : Room) (PcF [.ref (ad 1), .int p1, .int p2] D cy ad kdV shC rfC 80 M) (QcI r D cy ad kdV shC rfC 80 M') 0 0 (AV ad 80) := by
  refine Met.ofW (cc := cX4_readsNumber) (maxL := 3) (ret := (some .boolean)) (by decide) rfl ?_
  intro p e s m args below meth c s₁ B hml hv
  obtain ⟨rfl, hP, hK, hN⟩ := hv
  have hr := B.returns
  have hlocks := B.notSynchronized
  have S : CallFix p m c cX4_readsNumber 3 s ([.ref (ad 1), .int p1, .int p2] : List Value).toArray vX4_readsNumber RX4 := ⟨B.exec, B.bytes, hml, findClass_of_methodNamed B.named, atoms_spec (ws := vX4_readsNumber) B.pre⟩
  have hq : ∀ w ∈ GW, w.before ([.ref (ad 1), .int p1, .int p2] : List Value).toArray s = true := fun w h => S.2.2.2.2 w (List.mem_cons_of_mem _ h)
  have hA : ∀ k, k < 80 → AV ad 80 (ad k) := fun k hk => ⟨k, hk, rfl⟩
  have hW : WSt D cy ad kdV shC rfC 80 (AV ad 80) M s.heap s.heap [] := ⟨hP, va_S.rf⟩
  clear hP
  have iX4 : ∀ w ∈ wsX40, w ∈ vX4_readsNumber := fun w h => List.mem_cons_of_mem _ (inX4 w h)
  have hl := lv_entry ([.ref (ad 1), .int p1, .int p2]) (n := 3) (Nat.le_of_ble_eq_true rfl)
  rw [lg_entry_eq]
  generalize (lg_sl ([.ref (ad 1), .int p1, .int p2]) ++ List.replicate (3 - (lg_sl ([.ref (ad 1), .int p1, .int p2])).length) Slot.unset).toArray = ls at hl ⊢
  have hl : lv_has ls 3 [(0, .ref (ad 1)), (1, .int p1), (2, .int p2)] := hl
  rw [fX4_readsNumber] at h
  refine lv_aload_n S.1 S.2.1 dX4_readsNumber_0 rfl (lv_at hl 0 rfl) ?_
  obtain ⟨M2, u1, h⟩ := bP_some h
  refine fl_doneV (fl_runV S hK hN (kX4_readToken l hJ M M2 u1) (cwV 0 S.2.2.2.2 (gV q_85 q_86 q_87 q_76 q_84) rfl rfl rfl (by decide +kernel) ⟨Nat.le_of_ble_eq_true rfl, Nat.le_of_ble_eq_true rfl⟩) (ci := 4) rfl lC_1 sC_1 rfl hl.1 rfl (Nat.le_of_ble_eq_true rfl) dX4_readsNumber_1 ⟨Nat.zero_le _, Nat.zero_le _⟩ hW) hA hW.2 (fun H locs hW => ?_)
  refine lv_aload_n S.1 S.2.1 dX4_readsNumber_4 rfl (lv_at hl 0 rfl) ?_
  refine fl_get S hK iX4 rfl lC_1 sC_1 4 (by decide) (hq _ q_79) (fun _ h9 => h9) (fvs_I rfl) hW dX4_readsNumber_5 ?_
  refine lv_bipush (v := (-2 : Int32)) S.1 S.2.1 dX4_readsNumber_8 (by decide) ?_
  refine lv_icmp_ne (tgt := 33) S.1 S.2.1 dX4_readsNumber_10 (by decide) (fun c3 => ?_) (fun c3 => ?_)
  · replace h := (if_neg c3).symm.trans h
    refine lv_iconst (v := (0 : Int32)) S.1 S.2.1 dX4_readsNumber_33 (by decide) ?_
    obtain ⟨rfl, rfl⟩ := s2 h
    exact fl_zret S.1 S.2.1 hr hlocks (Or.inl rfl) hW dX4_readsNumber_34
  · replace h := (if_pos c3).symm.trans h
    refine lv_aload_n S.1 S.2.1 dX4_readsNumber_13 rfl (lv_at hl 0 rfl) ?_
    refine fl_get S hK iX4 rfl lC_1 sC_1 5 (by decide) (hq _ q_72) (fun _ h9 => h9) (fvs_I rfl) hW dX4_readsNumber_14 ?_
    refine lv_iload_n S.1 S.2.1 dX4_readsNumber_17 rfl (lv_at hl 1 rfl) ?_
    refine lv_icmp_lt (tgt := 33) S.1 S.2.1 dX4_readsNumber_18 (by decide) (fun c4 => ?_) (fun c4 => ?_)
    · replace h := (if_pos c4).symm.trans h
      refine lv_iconst (v := (0 : Int32)) S.1 S.2.1 dX4_readsNumber_33 (by decide) ?_
      obtain ⟨rfl, rfl⟩ := s2 h
      exact fl_zret S.1 S.2.1 hr hlocks (Or.inl rfl) hW dX4_readsNumber_34
    · replace h := (if_neg c4).symm.trans h
      refine lv_aload_n S.1 S.2.1 dX4_readsNumber_21 rfl (lv_at hl 0 rfl) ?_
      refine fl_get S hK iX4 rfl lC_1 sC_1 5 (by decide) (hq _ q_72) (fun _ h9 => h9) (fvs_I rfl) hW dX4_readsNumber_22 ?_
      refine lv_iload_n S.1 S.2.1 dX4_readsNumber_25 rfl (lv_at hl 2 rfl) ?_
      refine lv_icmp_gt (tgt := 33) S.1 S.2.1 dX4_readsNumber_26 (by decide) (fun c5 => ?_) (fun c5 => ?_)
      · replace h := (if_pos c5).symm.trans h
        refine lv_iconst (v := (0 : Int32)) S.1 S.2.1 dX4_readsNumber_33 (by decide) ?_
        obtain ⟨rfl, rfl⟩ := s2 h
        exact fl_zret S.1 S.2.1 hr hlocks (Or.inl rfl) hW dX4_readsNumber_34
      · replace h := (if_neg c5).symm.trans h
        refine lv_iconst (v := (1 : Int32)) S.1 S.2.1 dX4_readsNumber_29 (by decide) ?_
        refine lv_goto (tgt := 34) S.1 S.2.1 dX4_readsNumber_30 (by decide) ?_
        obtain ⟨rfl, rfl⟩ := s2 h
        exact fl_zret S.1 S.2.1 hr hlocks (Or.inr rfl) hW dX4_readsNumber_34
def fX4_readsRoom (b : Nat) (M : Mm) : Option (Int32 × Mm) :=
  if (6 : Int32) ≤ (M.1 b 4) then (some ((0 : Int32), M)) else (b2 (fX4_readsNumber (0 : Int32) (99 : Int32) M) (fun (v3 : Int32) (M4 : Mm) => if v3 = 0 then (some ((0 : Int32), M4)) else (ix (M4.1 b 4) 6 (lt (wI M4 (b + 1) (M4.1 b 4).toNatClampNeg (M4.1 1 5)) (fun (M7 : Mm) => lt (wI M7 b 4 ((M7.1 b 4) + (1 : Int32))) (fun (M9 : Mm) => some ((1 : Int32), M9)))))))
set_option maxHeartbeats 4000000 in
set_option maxRecDepth 100000 in
theorem kX4_readsRoom (l : Launch) {D : va_G} {cy : Nat → ClassId} {ad : Nat → Nat} (hJ : Inj ad 80) (b : Nat) (hb : isT b = true)  (M : Mm) (r : Int32) (M' : Mm) (h : fX4_readsRoom b M = some (r, M')) : Met l yX4_readsRoom vX4_readsRoom ({ frames := 4, cells := 0, slots := 0, locals := 87 } : Room) (PcF [.ref (ad 1), .ref (ad b)] D cy ad kdV shC rfC 80 M) (QcI r D cy ad kdV shC rfC 80 M') 0 0 (AV ad 80) := by
  refine Met.ofW (cc := cX4_readsRoom) (maxL := 2) (ret := (some .boolean)) (by decide) rfl ?_
  intro p e s m args below meth c s₁ B hml hv
  obtain ⟨rfl, hP, hK, hN⟩ := hv
  have hr := B.returns
  have hlocks := B.notSynchronized
  have S : CallFix p m c cX4_readsRoom 2 s ([.ref (ad 1), .ref (ad b)] : List Value).toArray vX4_readsRoom RX4 := ⟨B.exec, B.bytes, hml, findClass_of_methodNamed B.named, atoms_spec (ws := vX4_readsRoom) B.pre⟩
  have hq : ∀ w ∈ GW, w.before ([.ref (ad 1), .ref (ad b)] : List Value).toArray s = true := fun w h => S.2.2.2.2 w (List.mem_cons_of_mem _ h)
  have hA : ∀ k, k < 80 → AV ad 80 (ad k) := fun k hk => ⟨k, hk, rfl⟩
  have hW : WSt D cy ad kdV shC rfC 80 (AV ad 80) M s.heap s.heap [] := ⟨hP, va_S.rf⟩
  clear hP
  have iX4 : ∀ w ∈ wsX40, w ∈ vX4_readsRoom := fun w h => List.mem_cons_of_mem _ (inX4 w h)
  have iX5 : ∀ w ∈ wsX50, w ∈ vX4_readsRoom := fun w h => List.mem_cons_of_mem _ (inX5 w h)
  obtain ⟨⟨bl0, bs0⟩, ⟨bl1, bs1⟩, ⟨bl2, bs2⟩, ⟨bl3, bs3⟩, br0, br1, br2⟩ := isT_ok hb
  have hl := lv_entry ([.ref (ad 1), .ref (ad b)]) (n := 2) (Nat.le_of_ble_eq_true rfl)
  rw [lg_entry_eq]
  generalize (lg_sl ([.ref (ad 1), .ref (ad b)]) ++ List.replicate (2 - (lg_sl ([.ref (ad 1), .ref (ad b)])).length) Slot.unset).toArray = ls at hl ⊢
  have hl : lv_has ls 2 [(0, .ref (ad 1)), (1, .ref (ad b))] := hl
  rw [fX4_readsRoom] at h
  refine lv_aload_n S.1 S.2.1 dX4_readsRoom_0 rfl (lv_at hl 1 rfl) ?_
  refine fl_getN S hK iX5 rfl bl0 bs0 4 (by decide) (hN.f 21 rfl) (fun _ h9 => h9) (fvs_I rfl) hW dX4_readsRoom_1 ?_
  refine lv_bipush (v := (6 : Int32)) S.1 S.2.1 dX4_readsRoom_4 (by decide) ?_
  refine lv_icmp_ge (tgt := 19) S.1 S.2.1 dX4_readsRoom_6 (by decide) (fun c1 => ?_) (fun c1 => ?_)
  · replace h := (if_pos c1).symm.trans h
    refine lv_iconst (v := (0 : Int32)) S.1 S.2.1 dX4_readsRoom_19 (by decide) ?_
    obtain ⟨rfl, rfl⟩ := s2 h
    exact fl_zret S.1 S.2.1 hr hlocks (Or.inl rfl) hW dX4_readsRoom_20
  · replace h := (if_neg c1).symm.trans h
    refine lv_aload_n S.1 S.2.1 dX4_readsRoom_9 rfl (lv_at hl 0 rfl) ?_
    refine lv_iconst (v := (0 : Int32)) S.1 S.2.1 dX4_readsRoom_10 (by decide) ?_
    refine lv_bipush (v := (99 : Int32)) S.1 S.2.1 dX4_readsRoom_11 (by decide) ?_
    obtain ⟨v3, M4, u2, h⟩ := b2_some h
    refine fl_doneI (fl_runV S hK hN (kX4_readsNumber l hJ (0 : Int32) (99 : Int32) M v3 M4 u2) (cwV 2 S.2.2.2.2 (gV q_89 q_90 q_91 q_76 q_88) rfl rfl rfl (by decide +kernel) ⟨Nat.le_of_ble_eq_true rfl, Nat.le_of_ble_eq_true rfl⟩) (ci := 4) rfl lC_1 sC_1 rfl hl.1 rfl (Nat.le_of_ble_eq_true rfl) dX4_readsRoom_13 ⟨Nat.zero_le _, Nat.zero_le _⟩ hW) hA hW.2 (fun H locs hW => ?_)
    refine lv_if_ne (tgt := 21) S.1 S.2.1 dX4_readsRoom_16 (by decide) (fun c5 => ?_) (fun c5 => ?_)
    · replace h := (if_neg c5).symm.trans h
      refine lv_aload_n S.1 S.2.1 dX4_readsRoom_21 rfl (lv_at hl 1 rfl) ?_
      refine fl_getN S hK iX5 rfl bl0 bs0 0 (by decide) (hN.f 14 rfl) (fun _ h9 => h9) (fvs_R rfl br0) hW dX4_readsRoom_22 ?_
      refine lv_aload_n S.1 S.2.1 dX4_readsRoom_25 rfl (lv_at hl 1 rfl) ?_
      refine fl_getN S hK iX5 rfl bl0 bs0 4 (by decide) (hN.f 21 rfl) (fun _ h9 => h9) (fvs_I rfl) hW dX4_readsRoom_26 ?_
      refine lv_aload_n S.1 S.2.1 dX4_readsRoom_29 rfl (lv_at hl 0 rfl) ?_
      refine fl_get S hK iX4 rfl lC_1 sC_1 5 (by decide) (hq _ q_72) (fun _ h9 => h9) (fvs_I rfl) hW dX4_readsRoom_30 ?_
      obtain ⟨g6, h⟩ := ix_some h
      refine fl_iast S hK hJ hA bl1 bs1 g6 hW dX4_readsRoom_33 (fun H locs hW => ?_)
      obtain ⟨M7, e8, h⟩ := lt_some h
      rw [e8] at hW
      clear e8
      refine lv_aload_n S.1 S.2.1 dX4_readsRoom_34 rfl (lv_at hl 1 rfl) ?_
      refine lv_dup S.1 S.2.1 dX4_readsRoom_35 rfl ?_
      refine fl_getN S hK iX5 rfl bl0 bs0 4 (by decide) (hN.f 21 rfl) (fun _ h9 => h9) (fvs_I rfl) hW dX4_readsRoom_36 ?_
      refine lv_iconst (v := (1 : Int32)) S.1 S.2.1 dX4_readsRoom_39 (by decide) ?_
      refine lv_iadd S.1 S.2.1 dX4_readsRoom_40 ?_
      refine fl_putN S hK hJ hA tyX5 tyX5_ok nmX5 iX5 rfl bl0 bs0 4 (by decide) (hN.f 21 rfl) (fun _ h9 => h9) rfl (ty := .int) rfl rfl rfl (wI M7 b 4 ((M7.1 b 4) + (1 : Int32))) (by decide) (fvs_setI _ _ _ _ _ _ _ rfl) (fun j _ hj => cof_wI_ne hj) hW dX4_readsRoom_41 (fun H locs hW => ?_)
      obtain ⟨M9, e10, h⟩ := lt_some h
      rw [e10] at hW
      clear e10
      refine lv_iconst (v := (1 : Int32)) S.1 S.2.1 dX4_readsRoom_44 (by decide) ?_
      obtain ⟨rfl, rfl⟩ := s2 h
      exact fl_zret S.1 S.2.1 hr hlocks (Or.inr rfl) hW dX4_readsRoom_45
    · replace h := (if_pos c5).symm.trans h
      refine lv_iconst (v := (0 : Int32)) S.1 S.2.1 dX4_readsRoom_19 (by decide) ?_
      obtain ⟨rfl, rfl⟩ := s2 h
      exact fl_zret S.1 S.2.1 hr hlocks (Or.inl rfl) hW dX4_readsRoom_20
def fX4_readsWork (b : Nat) (M : Mm) : Option (Int32 × Mm) :=
  if (5 : Int32) ≤ (M.1 b 6) then (some ((0 : Int32), M)) else (b2 (fX4_readsNumber (0 : Int32) (99 : Int32) M) (fun (v3 : Int32) (M4 : Mm) => if v3 = 0 then (some ((0 : Int32), M4)) else (b2 (fX4_readsNumber (M4.1 1 5) (99 : Int32) M4) (fun (v7 : Int32) (M8 : Mm) => if v7 = 0 then (some ((0 : Int32), M8)) else (ix (M8.1 b 6) 5 (lt (wI M8 (b + 2) (M8.1 b 6).toNatClampNeg (M4.1 1 5)) (fun (M11 : Mm) => ix (M11.1 b 6) 5 (lt (wI M11 (b + 3) (M11.1 b 6).toNatClampNeg (M11.1 1 5)) (fun (M14 : Mm) => lt (wI M14 b 6 ((M14.1 b 6) + (1 : Int32))) (fun (M16 : Mm) => some ((1 : Int32), M16)))))))))))
set_option maxHeartbeats 4000000 in
set_option maxRecDepth 100000 in
theorem kX4_readsWork (l : Launch) {D : va_G} {cy : Nat → ClassId} {ad : Nat → Nat} (hJ : Inj ad 80) (b : Nat) (hb : isT b = true)  (M : Mm) (r : Int32) (M' : Mm) (h : fX4_readsWork b M = some (r, M')) : Met l yX4_readsWork vX4_readsWork ({ frames := 4, cells := 0, slots := 0, locals := 87 } : Room) (PcF [.ref (ad 1), .ref (ad b)] D cy ad kdV shC rfC 80 M) (QcI r D cy ad kdV shC rfC 80 M') 0 0 (AV ad 80) := by
  refine Met.ofW (cc := cX4_readsWork) (maxL := 3) (ret := (some .boolean)) (by decide) rfl ?_
  intro p e s m args below meth c s₁ B hml hv
  obtain ⟨rfl, hP, hK, hN⟩ := hv
  have hr := B.returns
  have hlocks := B.notSynchronized
  have S : CallFix p m c cX4_readsWork 3 s ([.ref (ad 1), .ref (ad b)] : List Value).toArray vX4_readsWork RX4 := ⟨B.exec, B.bytes, hml, findClass_of_methodNamed B.named, atoms_spec (ws := vX4_readsWork) B.pre⟩
  have hq : ∀ w ∈ GW, w.before ([.ref (ad 1), .ref (ad b)] : List Value).toArray s = true := fun w h => S.2.2.2.2 w (List.mem_cons_of_mem _ h)
  have hA : ∀ k, k < 80 → AV ad 80 (ad k) := fun k hk => ⟨k, hk, rfl⟩
  have hW : WSt D cy ad kdV shC rfC 80 (AV ad 80) M s.heap s.heap [] := ⟨hP, va_S.rf⟩
  clear hP
  have iX4 : ∀ w ∈ wsX40, w ∈ vX4_readsWork := fun w h => List.mem_cons_of_mem _ (inX4 w h)
  have iX5 : ∀ w ∈ wsX50, w ∈ vX4_readsWork := fun w h => List.mem_cons_of_mem _ (inX5 w h)
  obtain ⟨⟨bl0, bs0⟩, ⟨bl1, bs1⟩, ⟨bl2, bs2⟩, ⟨bl3, bs3⟩, br0, br1, br2⟩ := isT_ok hb
  have hl := lv_entry ([.ref (ad 1), .ref (ad b)]) (n := 3) (Nat.le_of_ble_eq_true rfl)
  rw [lg_entry_eq]
  generalize (lg_sl ([.ref (ad 1), .ref (ad b)]) ++ List.replicate (3 - (lg_sl ([.ref (ad 1), .ref (ad b)])).length) Slot.unset).toArray = ls at hl ⊢
  have hl : lv_has ls 3 [(0, .ref (ad 1)), (1, .ref (ad b))] := hl
  rw [fX4_readsWork] at h
  refine lv_aload_n S.1 S.2.1 dX4_readsWork_0 rfl (lv_at hl 1 rfl) ?_
  refine fl_getN S hK iX5 rfl bl0 bs0 6 (by decide) (hN.f 27 rfl) (fun _ h9 => h9) (fvs_I rfl) hW dX4_readsWork_1 ?_
  refine lv_iconst (v := (5 : Int32)) S.1 S.2.1 dX4_readsWork_4 (by decide) ?_
  refine lv_icmp_ge (tgt := 18) S.1 S.2.1 dX4_readsWork_5 (by decide) (fun c1 => ?_) (fun c1 => ?_)
  · replace h := (if_pos c1).symm.trans h
    refine lv_iconst (v := (0 : Int32)) S.1 S.2.1 dX4_readsWork_18 (by decide) ?_
    obtain ⟨rfl, rfl⟩ := s2 h
    exact fl_zret S.1 S.2.1 hr hlocks (Or.inl rfl) hW dX4_readsWork_19
  · replace h := (if_neg c1).symm.trans h
    refine lv_aload_n S.1 S.2.1 dX4_readsWork_8 rfl (lv_at hl 0 rfl) ?_
    refine lv_iconst (v := (0 : Int32)) S.1 S.2.1 dX4_readsWork_9 (by decide) ?_
    refine lv_bipush (v := (99 : Int32)) S.1 S.2.1 dX4_readsWork_10 (by decide) ?_
    obtain ⟨v3, M4, u2, h⟩ := b2_some h
    refine fl_doneI (fl_runV S hK hN (kX4_readsNumber l hJ (0 : Int32) (99 : Int32) M v3 M4 u2) (cwV 2 S.2.2.2.2 (gV q_89 q_90 q_91 q_76 q_88) rfl rfl rfl (by decide +kernel) ⟨Nat.le_of_ble_eq_true rfl, Nat.le_of_ble_eq_true rfl⟩) (ci := 4) rfl lC_1 sC_1 rfl hl.1 rfl (Nat.le_of_ble_eq_true rfl) dX4_readsWork_12 ⟨Nat.zero_le _, Nat.zero_le _⟩ hW) hA hW.2 (fun H locs hW => ?_)
    refine lv_if_ne (tgt := 20) S.1 S.2.1 dX4_readsWork_15 (by decide) (fun c5 => ?_) (fun c5 => ?_)
    · replace h := (if_neg c5).symm.trans h
      refine lv_aload_n S.1 S.2.1 dX4_readsWork_20 rfl (lv_at hl 0 rfl) ?_
      refine fl_get S hK iX4 rfl lC_1 sC_1 5 (by decide) (hq _ q_72) (fun _ h9 => h9) (fvs_I rfl) hW dX4_readsWork_21 ?_
      refine lv_istore_n (lv' := [(2, .int (M4.1 1 5)), (0, .ref (ad 1)), (1, .ref (ad b))]) S.1 S.2.1 dX4_readsWork_24 rfl hl (by decide) rfl (fun ls hl => ?_)
      refine lv_aload_n S.1 S.2.1 dX4_readsWork_25 rfl (lv_at hl 1 rfl) ?_
      refine lv_iload_n S.1 S.2.1 dX4_readsWork_26 rfl (lv_at hl 0 rfl) ?_
      refine lv_bipush (v := (99 : Int32)) S.1 S.2.1 dX4_readsWork_27 (by decide) ?_
      obtain ⟨v7, M8, u6, h⟩ := b2_some h
      refine fl_doneI (fl_runV S hK hN (kX4_readsNumber l hJ (M4.1 1 5) (99 : Int32) M4 v7 M8 u6) (cwV 2 S.2.2.2.2 (gV q_89 q_90 q_91 q_76 q_88) rfl rfl rfl (by decide +kernel) ⟨Nat.le_of_ble_eq_true rfl, Nat.le_of_ble_eq_true rfl⟩) (ci := 4) rfl lC_1 sC_1 rfl hl.1 rfl (Nat.le_of_ble_eq_true rfl) dX4_readsWork_29 ⟨Nat.zero_le _, Nat.zero_le _⟩ hW) hA hW.2 (fun H locs hW => ?_)
      refine lv_if_ne (tgt := 37) S.1 S.2.1 dX4_readsWork_32 (by decide) (fun c9 => ?_) (fun c9 => ?_)
      · replace h := (if_neg c9).symm.trans h
        refine lv_aload_n S.1 S.2.1 dX4_readsWork_37 rfl (lv_at hl 2 rfl) ?_
        refine fl_getN S hK iX5 rfl bl0 bs0 1 (by decide) (hN.f 15 rfl) (fun _ h9 => h9) (fvs_R rfl br1) hW dX4_readsWork_38 ?_
        refine lv_aload_n S.1 S.2.1 dX4_readsWork_41 rfl (lv_at hl 2 rfl) ?_
        refine fl_getN S hK iX5 rfl bl0 bs0 6 (by decide) (hN.f 27 rfl) (fun _ h9 => h9) (fvs_I rfl) hW dX4_readsWork_42 ?_
        refine lv_iload_n S.1 S.2.1 dX4_readsWork_45 rfl (lv_at hl 0 rfl) ?_
        obtain ⟨g10, h⟩ := ix_some h
        refine fl_iast S hK hJ hA bl2 bs2 g10 hW dX4_readsWork_46 (fun H locs hW => ?_)
        obtain ⟨M11, e12, h⟩ := lt_some h
        rw [e12] at hW
        clear e12
        refine lv_aload_n S.1 S.2.1 dX4_readsWork_47 rfl (lv_at hl 2 rfl) ?_
        refine fl_getN S hK iX5 rfl bl0 bs0 2 (by decide) (hN.f 17 rfl) (fun _ h9 => h9) (fvs_R rfl br2) hW dX4_readsWork_48 ?_
        refine lv_aload_n S.1 S.2.1 dX4_readsWork_51 rfl (lv_at hl 2 rfl) ?_
        refine fl_getN S hK iX5 rfl bl0 bs0 6 (by decide) (hN.f 27 rfl) (fun _ h9 => h9) (fvs_I rfl) hW dX4_readsWork_52 ?_
        refine lv_aload_n S.1 S.2.1 dX4_readsWork_55 rfl (lv_at hl 1 rfl) ?_
        refine fl_get S hK iX4 rfl lC_1 sC_1 5 (by decide) (hq _ q_72) (fun _ h9 => h9) (fvs_I rfl) hW dX4_readsWork_56 ?_
        obtain ⟨g13, h⟩ := ix_some h
        refine fl_iast S hK hJ hA bl3 bs3 g13 hW dX4_readsWork_59 (fun H locs hW => ?_)
        obtain ⟨M14, e15, h⟩ := lt_some h
        rw [e15] at hW
        clear e15
        refine lv_aload_n S.1 S.2.1 dX4_readsWork_60 rfl (lv_at hl 2 rfl) ?_
        refine lv_dup S.1 S.2.1 dX4_readsWork_61 rfl ?_
        refine fl_getN S hK iX5 rfl bl0 bs0 6 (by decide) (hN.f 27 rfl) (fun _ h9 => h9) (fvs_I rfl) hW dX4_readsWork_62 ?_
        refine lv_iconst (v := (1 : Int32)) S.1 S.2.1 dX4_readsWork_65 (by decide) ?_
        refine lv_iadd S.1 S.2.1 dX4_readsWork_66 ?_
        refine fl_putN S hK hJ hA tyX5 tyX5_ok nmX5 iX5 rfl bl0 bs0 6 (by decide) (hN.f 27 rfl) (fun _ h9 => h9) rfl (ty := .int) rfl rfl rfl (wI M14 b 6 ((M14.1 b 6) + (1 : Int32))) (by decide) (fvs_setI _ _ _ _ _ _ _ rfl) (fun j _ hj => cof_wI_ne hj) hW dX4_readsWork_67 (fun H locs hW => ?_)
        obtain ⟨M16, e17, h⟩ := lt_some h
        rw [e17] at hW
        clear e17
        refine lv_iconst (v := (1 : Int32)) S.1 S.2.1 dX4_readsWork_70 (by decide) ?_
        obtain ⟨rfl, rfl⟩ := s2 h
        exact fl_zret S.1 S.2.1 hr hlocks (Or.inr rfl) hW dX4_readsWork_71
      · replace h := (if_pos c9).symm.trans h
        refine lv_iconst (v := (0 : Int32)) S.1 S.2.1 dX4_readsWork_35 (by decide) ?_
        obtain ⟨rfl, rfl⟩ := s2 h
        exact fl_zret S.1 S.2.1 hr hlocks (Or.inl rfl) hW dX4_readsWork_36
    · replace h := (if_pos c5).symm.trans h
      refine lv_iconst (v := (0 : Int32)) S.1 S.2.1 dX4_readsWork_18 (by decide) ?_
      obtain ⟨rfl, rfl⟩ := s2 h
      exact fl_zret S.1 S.2.1 hr hlocks (Or.inl rfl) hW dX4_readsWork_19
def fX4_readsMothers (b : Nat) (M : Mm) : Option (Int32 × Mm) :=
  if (M.1 1 6) = 0 then (b2 (fX4_readsNumber (1 : Int32) (6 : Int32) M) (fun (v3 : Int32) (M4 : Mm) => if v3 = 0 then (some ((0 : Int32), M4)) else (lt (wI M4 b 5 (M4.1 1 5)) (fun (M6 : Mm) => lt (wI M6 1 6 (1 : Int32)) (fun (M8 : Mm) => some ((1 : Int32), M8)))))) else (some ((0 : Int32), M))
set_option maxHeartbeats 4000000 in
set_option maxRecDepth 100000 in
theorem kX4_readsMothers (l : Launch) {D : va_G} {cy : Nat → ClassId} {ad : Nat → Nat} (hJ : Inj ad 80) (b : Nat) (hb : isT b = true)  (M : Mm) (r : Int32) (M' : Mm) (h : fX4_readsMothers b M = some (r, M')) : Met l yX4_readsMothers vX4_readsMothers ({ frames := 4, cells := 0, slots := 0, locals := 87 } : Room) (PcF [.ref (ad 1), .ref (ad b)] D cy ad kdV shC rfC 80 M) (QcI r D cy ad kdV shC rfC 80 M') 0 0 (AV ad 80) := by
  refine Met.ofW (cc := cX4_readsMothers) (maxL := 2) (ret := (some .boolean)) (by decide) rfl ?_
  intro p e s m args below meth c s₁ B hml hv
  obtain ⟨rfl, hP, hK, hN⟩ := hv
  have hr := B.returns
  have hlocks := B.notSynchronized
  have S : CallFix p m c cX4_readsMothers 2 s ([.ref (ad 1), .ref (ad b)] : List Value).toArray vX4_readsMothers RX4 := ⟨B.exec, B.bytes, hml, findClass_of_methodNamed B.named, atoms_spec (ws := vX4_readsMothers) B.pre⟩
  have hq : ∀ w ∈ GW, w.before ([.ref (ad 1), .ref (ad b)] : List Value).toArray s = true := fun w h => S.2.2.2.2 w (List.mem_cons_of_mem _ h)
  have hA : ∀ k, k < 80 → AV ad 80 (ad k) := fun k hk => ⟨k, hk, rfl⟩
  have hW : WSt D cy ad kdV shC rfC 80 (AV ad 80) M s.heap s.heap [] := ⟨hP, va_S.rf⟩
  clear hP
  have iX4 : ∀ w ∈ wsX40, w ∈ vX4_readsMothers := fun w h => List.mem_cons_of_mem _ (inX4 w h)
  have iX5 : ∀ w ∈ wsX50, w ∈ vX4_readsMothers := fun w h => List.mem_cons_of_mem _ (inX5 w h)
  obtain ⟨⟨bl0, bs0⟩, ⟨bl1, bs1⟩, ⟨bl2, bs2⟩, ⟨bl3, bs3⟩, br0, br1, br2⟩ := isT_ok hb
  have hl := lv_entry ([.ref (ad 1), .ref (ad b)]) (n := 2) (Nat.le_of_ble_eq_true rfl)
  rw [lg_entry_eq]
  generalize (lg_sl ([.ref (ad 1), .ref (ad b)]) ++ List.replicate (2 - (lg_sl ([.ref (ad 1), .ref (ad b)])).length) Slot.unset).toArray = ls at hl ⊢
  have hl : lv_has ls 2 [(0, .ref (ad 1)), (1, .ref (ad b))] := hl
  rw [fX4_readsMothers] at h
  refine lv_aload_n S.1 S.2.1 dX4_readsMothers_0 rfl (lv_at hl 0 rfl) ?_
  refine fl_get S hK iX4 rfl lC_1 sC_1 6 (by decide) (hq _ q_92) (fun _ h9 => h9) (fvs_I rfl) hW dX4_readsMothers_1 ?_
  refine lv_if_ne (tgt := 17) S.1 S.2.1 dX4_readsMothers_4 (by decide) (fun c1 => ?_) (fun c1 => ?_)
  · replace h := (if_neg c1).symm.trans h
    refine lv_iconst (v := (0 : Int32)) S.1 S.2.1 dX4_readsMothers_17 (by decide) ?_
    obtain ⟨rfl, rfl⟩ := s2 h
    exact fl_zret S.1 S.2.1 hr hlocks (Or.inl rfl) hW dX4_readsMothers_18
  · replace h := (if_pos c1).symm.trans h
    refine lv_aload_n S.1 S.2.1 dX4_readsMothers_7 rfl (lv_at hl 0 rfl) ?_
    refine lv_iconst (v := (1 : Int32)) S.1 S.2.1 dX4_readsMothers_8 (by decide) ?_
    refine lv_bipush (v := (6 : Int32)) S.1 S.2.1 dX4_readsMothers_9 (by decide) ?_
    obtain ⟨v3, M4, u2, h⟩ := b2_some h
    refine fl_doneI (fl_runV S hK hN (kX4_readsNumber l hJ (1 : Int32) (6 : Int32) M v3 M4 u2) (cwV 2 S.2.2.2.2 (gV q_89 q_90 q_91 q_76 q_88) rfl rfl rfl (by decide +kernel) ⟨Nat.le_of_ble_eq_true rfl, Nat.le_of_ble_eq_true rfl⟩) (ci := 4) rfl lC_1 sC_1 rfl hl.1 rfl (Nat.le_of_ble_eq_true rfl) dX4_readsMothers_11 ⟨Nat.zero_le _, Nat.zero_le _⟩ hW) hA hW.2 (fun H locs hW => ?_)
    refine lv_if_ne (tgt := 19) S.1 S.2.1 dX4_readsMothers_14 (by decide) (fun c5 => ?_) (fun c5 => ?_)
    · replace h := (if_neg c5).symm.trans h
      refine lv_aload_n S.1 S.2.1 dX4_readsMothers_19 rfl (lv_at hl 1 rfl) ?_
      refine lv_aload_n S.1 S.2.1 dX4_readsMothers_20 rfl (lv_at hl 0 rfl) ?_
      refine fl_get S hK iX4 rfl lC_1 sC_1 5 (by decide) (hq _ q_72) (fun _ h9 => h9) (fvs_I rfl) hW dX4_readsMothers_21 ?_
      refine fl_putN S hK hJ hA tyX5 tyX5_ok nmX5 iX5 rfl bl0 bs0 5 (by decide) (hN.f 24 rfl) (fun _ h9 => h9) rfl (ty := .int) rfl rfl rfl (wI M4 b 5 (M4.1 1 5)) (by decide) (fvs_setI _ _ _ _ _ _ _ rfl) (fun j _ hj => cof_wI_ne hj) hW dX4_readsMothers_24 (fun H locs hW => ?_)
      obtain ⟨M6, e7, h⟩ := lt_some h
      rw [e7] at hW
      clear e7
      refine lv_aload_n S.1 S.2.1 dX4_readsMothers_27 rfl (lv_at hl 0 rfl) ?_
      refine lv_iconst (v := (1 : Int32)) S.1 S.2.1 dX4_readsMothers_28 (by decide) ?_
      refine fl_put S hK hJ hA tyX4 tyX4_ok nmX4 iX4 rfl lC_1 sC_1 6 (by decide) (hq _ q_92) (fun _ h9 => h9) rfl (ty := .boolean) rfl (zb_narrow (Or.inr rfl)) (zb_fits (Or.inr rfl)) (wI M6 1 6 (1 : Int32)) (by decide) (fvs_setI _ _ _ _ _ _ _ rfl) (fun j _ hj => cof_wI_ne hj) hW dX4_readsMothers_29 (fun H locs hW => ?_)
      obtain ⟨M8, e9, h⟩ := lt_some h
      rw [e9] at hW
      clear e9
      refine lv_iconst (v := (1 : Int32)) S.1 S.2.1 dX4_readsMothers_32 (by decide) ?_
      obtain ⟨rfl, rfl⟩ := s2 h
      exact fl_zret S.1 S.2.1 hr hlocks (Or.inr rfl) hW dX4_readsMothers_33
    · replace h := (if_pos c5).symm.trans h
      refine lv_iconst (v := (0 : Int32)) S.1 S.2.1 dX4_readsMothers_17 (by decide) ?_
      obtain ⟨rfl, rfl⟩ := s2 h
      exact fl_zret S.1 S.2.1 hr hlocks (Or.inl rfl) hW dX4_readsMothers_18
def fX4_readsLife (b : Nat) (M : Mm) : Option (Int32 × Mm) :=
  if (M.1 1 7) = 0 then (b2 (fX4_readsNumber (10 : Int32) (99 : Int32) M) (fun (v3 : Int32) (M4 : Mm) => if v3 = 0 then (some ((0 : Int32), M4)) else (lt (wI M4 b 7 (M4.1 1 5)) (fun (M6 : Mm) => lt (wI M6 1 7 (1 : Int32)) (fun (M8 : Mm) => some ((1 : Int32), M8)))))) else (some ((0 : Int32), M))
set_option maxHeartbeats 4000000 in
set_option maxRecDepth 100000 in
theorem kX4_readsLife (l : Launch) {D : va_G} {cy : Nat → ClassId} {ad : Nat → Nat} (hJ : Inj ad 80) (b : Nat) (hb : isT b = true)  (M : Mm) (r : Int32) (M' : Mm) (h : fX4_readsLife b M = some (r, M')) : Met l yX4_readsLife vX4_readsLife ({ frames := 4, cells := 0, slots := 0, locals := 87 } : Room) (PcF [.ref (ad 1), .ref (ad b)] D cy ad kdV shC rfC 80 M) (QcI r D cy ad kdV shC rfC 80 M') 0 0 (AV ad 80) := by
  refine Met.ofW (cc := cX4_readsLife) (maxL := 2) (ret := (some .boolean)) (by decide) rfl ?_
  intro p e s m args below meth c s₁ B hml hv
  obtain ⟨rfl, hP, hK, hN⟩ := hv
  have hr := B.returns
  have hlocks := B.notSynchronized
  have S : CallFix p m c cX4_readsLife 2 s ([.ref (ad 1), .ref (ad b)] : List Value).toArray vX4_readsLife RX4 := ⟨B.exec, B.bytes, hml, findClass_of_methodNamed B.named, atoms_spec (ws := vX4_readsLife) B.pre⟩
  have hq : ∀ w ∈ GW, w.before ([.ref (ad 1), .ref (ad b)] : List Value).toArray s = true := fun w h => S.2.2.2.2 w (List.mem_cons_of_mem _ h)
  have hA : ∀ k, k < 80 → AV ad 80 (ad k) := fun k hk => ⟨k, hk, rfl⟩
  have hW : WSt D cy ad kdV shC rfC 80 (AV ad 80) M s.heap s.heap [] := ⟨hP, va_S.rf⟩
  clear hP
  have iX4 : ∀ w ∈ wsX40, w ∈ vX4_readsLife := fun w h => List.mem_cons_of_mem _ (inX4 w h)
  have iX5 : ∀ w ∈ wsX50, w ∈ vX4_readsLife := fun w h => List.mem_cons_of_mem _ (inX5 w h)
  obtain ⟨⟨bl0, bs0⟩, ⟨bl1, bs1⟩, ⟨bl2, bs2⟩, ⟨bl3, bs3⟩, br0, br1, br2⟩ := isT_ok hb
  have hl := lv_entry ([.ref (ad 1), .ref (ad b)]) (n := 2) (Nat.le_of_ble_eq_true rfl)
  rw [lg_entry_eq]
  generalize (lg_sl ([.ref (ad 1), .ref (ad b)]) ++ List.replicate (2 - (lg_sl ([.ref (ad 1), .ref (ad b)])).length) Slot.unset).toArray = ls at hl ⊢
  have hl : lv_has ls 2 [(0, .ref (ad 1)), (1, .ref (ad b))] := hl
  rw [fX4_readsLife] at h
  refine lv_aload_n S.1 S.2.1 dX4_readsLife_0 rfl (lv_at hl 0 rfl) ?_
  refine fl_get S hK iX4 rfl lC_1 sC_1 7 (by decide) (hq _ q_93) (fun _ h9 => h9) (fvs_I rfl) hW dX4_readsLife_1 ?_
  refine lv_if_ne (tgt := 18) S.1 S.2.1 dX4_readsLife_4 (by decide) (fun c1 => ?_) (fun c1 => ?_)
  · replace h := (if_neg c1).symm.trans h
    refine lv_iconst (v := (0 : Int32)) S.1 S.2.1 dX4_readsLife_18 (by decide) ?_
    obtain ⟨rfl, rfl⟩ := s2 h
    exact fl_zret S.1 S.2.1 hr hlocks (Or.inl rfl) hW dX4_readsLife_19
  · replace h := (if_pos c1).symm.trans h
    refine lv_aload_n S.1 S.2.1 dX4_readsLife_7 rfl (lv_at hl 0 rfl) ?_
    refine lv_bipush (v := (10 : Int32)) S.1 S.2.1 dX4_readsLife_8 (by decide) ?_
    refine lv_bipush (v := (99 : Int32)) S.1 S.2.1 dX4_readsLife_10 (by decide) ?_
    obtain ⟨v3, M4, u2, h⟩ := b2_some h
    refine fl_doneI (fl_runV S hK hN (kX4_readsNumber l hJ (10 : Int32) (99 : Int32) M v3 M4 u2) (cwV 2 S.2.2.2.2 (gV q_89 q_90 q_91 q_76 q_88) rfl rfl rfl (by decide +kernel) ⟨Nat.le_of_ble_eq_true rfl, Nat.le_of_ble_eq_true rfl⟩) (ci := 4) rfl lC_1 sC_1 rfl hl.1 rfl (Nat.le_of_ble_eq_true rfl) dX4_readsLife_12 ⟨Nat.zero_le _, Nat.zero_le _⟩ hW) hA hW.2 (fun H locs hW => ?_)
    refine lv_if_ne (tgt := 20) S.1 S.2.1 dX4_readsLife_15 (by decide) (fun c5 => ?_) (fun c5 => ?_)
    · replace h := (if_neg c5).symm.trans h
      refine lv_aload_n S.1 S.2.1 dX4_readsLife_20 rfl (lv_at hl 1 rfl) ?_
      refine lv_aload_n S.1 S.2.1 dX4_readsLife_21 rfl (lv_at hl 0 rfl) ?_
      refine fl_get S hK iX4 rfl lC_1 sC_1 5 (by decide) (hq _ q_72) (fun _ h9 => h9) (fvs_I rfl) hW dX4_readsLife_22 ?_
      refine fl_putN S hK hJ hA tyX5 tyX5_ok nmX5 iX5 rfl bl0 bs0 7 (by decide) (hN.f 30 rfl) (fun _ h9 => h9) rfl (ty := .int) rfl rfl rfl (wI M4 b 7 (M4.1 1 5)) (by decide) (fvs_setI _ _ _ _ _ _ _ rfl) (fun j _ hj => cof_wI_ne hj) hW dX4_readsLife_25 (fun H locs hW => ?_)
      obtain ⟨M6, e7, h⟩ := lt_some h
      rw [e7] at hW
      clear e7
      refine lv_aload_n S.1 S.2.1 dX4_readsLife_28 rfl (lv_at hl 0 rfl) ?_
      refine lv_iconst (v := (1 : Int32)) S.1 S.2.1 dX4_readsLife_29 (by decide) ?_
      refine fl_put S hK hJ hA tyX4 tyX4_ok nmX4 iX4 rfl lC_1 sC_1 7 (by decide) (hq _ q_93) (fun _ h9 => h9) rfl (ty := .boolean) rfl (zb_narrow (Or.inr rfl)) (zb_fits (Or.inr rfl)) (wI M6 1 7 (1 : Int32)) (by decide) (fvs_setI _ _ _ _ _ _ _ rfl) (fun j _ hj => cof_wI_ne hj) hW dX4_readsLife_30 (fun H locs hW => ?_)
      obtain ⟨M8, e9, h⟩ := lt_some h
      rw [e9] at hW
      clear e9
      refine lv_iconst (v := (1 : Int32)) S.1 S.2.1 dX4_readsLife_33 (by decide) ?_
      obtain ⟨rfl, rfl⟩ := s2 h
      exact fl_zret S.1 S.2.1 hr hlocks (Or.inr rfl) hW dX4_readsLife_34
    · replace h := (if_pos c5).symm.trans h
      refine lv_iconst (v := (0 : Int32)) S.1 S.2.1 dX4_readsLife_18 (by decide) ?_
      obtain ⟨rfl, rfl⟩ := s2 h
      exact fl_zret S.1 S.2.1 hr hlocks (Or.inl rfl) hW dX4_readsLife_19
def fX4_readsItem (b : Nat) (M : Mm) : Option (Int32 × Mm) :=
  if (M.1 1 4) = (97 : Int32) then (b2 (fX4_readsRoom b M) (fun (v6 : Int32) (M7 : Mm) => zb v6 (some (v6, M7)))) else (if (M.1 1 4) = (108 : Int32) then (b2 (fX4_readsLife b M) (fun (v10 : Int32) (M11 : Mm) => zb v10 (some (v10, M11)))) else (if (M.1 1 4) = (109 : Int32) then (b2 (fX4_readsMothers b M) (fun (v14 : Int32) (M15 : Mm) => zb v14 (some (v14, M15)))) else (if (M.1 1 4) = (119 : Int32) then (b2 (fX4_readsWork b M) (fun (v18 : Int32) (M19 : Mm) => zb v18 (some (v18, M19)))) else (some ((0 : Int32), M)))))
set_option maxHeartbeats 4000000 in
set_option maxRecDepth 100000 in
theorem kX4_readsItem (l : Launch) {D : va_G} {cy : Nat → ClassId} {ad : Nat → Nat} (hJ : Inj ad 80) (b : Nat) (hb : isT b = true)  (M : Mm) (r : Int32) (M' : Mm) (h : fX4_readsItem b M = some (r, M')) : Met l yX4_readsItem vX4_readsItem ({ frames := 5, cells := 0, slots := 0, locals := 109 } : Room) (PcF [.ref (ad 1), .ref (ad b)] D cy ad kdV shC rfC 80 M) (QcI r D cy ad kdV shC rfC 80 M') 0 0 (AV ad 80) := by
  refine Met.ofW (cc := cX4_readsItem) (maxL := 2) (ret := (some .boolean)) (by decide) rfl ?_
  intro p e s m args below meth c s₁ B hml hv
  obtain ⟨rfl, hP, hK, hN⟩ := hv
  have hr := B.returns
  have hlocks := B.notSynchronized
  have S : CallFix p m c cX4_readsItem 2 s ([.ref (ad 1), .ref (ad b)] : List Value).toArray vX4_readsItem RX4 := ⟨B.exec, B.bytes, hml, findClass_of_methodNamed B.named, atoms_spec (ws := vX4_readsItem) B.pre⟩
  have hq : ∀ w ∈ GW, w.before ([.ref (ad 1), .ref (ad b)] : List Value).toArray s = true := fun w h => S.2.2.2.2 w (List.mem_cons_of_mem _ h)
  have hA : ∀ k, k < 80 → AV ad 80 (ad k) := fun k hk => ⟨k, hk, rfl⟩
  have hW : WSt D cy ad kdV shC rfC 80 (AV ad 80) M s.heap s.heap [] := ⟨hP, va_S.rf⟩
  clear hP
  have iX4 : ∀ w ∈ wsX40, w ∈ vX4_readsItem := fun w h => List.mem_cons_of_mem _ (inX4 w h)
  obtain ⟨⟨bl0, bs0⟩, ⟨bl1, bs1⟩, ⟨bl2, bs2⟩, ⟨bl3, bs3⟩, br0, br1, br2⟩ := isT_ok hb
  have hl := lv_entry ([.ref (ad 1), .ref (ad b)]) (n := 2) (Nat.le_of_ble_eq_true rfl)
  rw [lg_entry_eq]
  generalize (lg_sl ([.ref (ad 1), .ref (ad b)]) ++ List.replicate (2 - (lg_sl ([.ref (ad 1), .ref (ad b)])).length) Slot.unset).toArray = ls at hl ⊢
  have hl : lv_has ls 2 [(0, .ref (ad 1)), (1, .ref (ad b))] := hl
  rw [fX4_readsItem] at h
  refine lv_aload_n S.1 S.2.1 dX4_readsItem_0 rfl (lv_at hl 0 rfl) ?_
  refine fl_get S hK iX4 rfl lC_1 sC_1 4 (by decide) (hq _ q_79) (fun _ h9 => h9) (fvs_I rfl) hW dX4_readsItem_1 ?_
  by_cases c1 : (M.1 1 4) = (97 : Int32)
  · replace h := (if_pos c1).symm.trans h
    refine lv_lookup (off := 44) (tgt := 48) S.1 S.2.1 dX4_readsItem_4 (by decide) (by rw [c1]; decide) (by decide) ?_
    refine lv_aload_n S.1 S.2.1 dX4_readsItem_48 rfl (lv_at hl 0 rfl) ?_
    refine lv_aload_n S.1 S.2.1 dX4_readsItem_49 rfl (lv_at hl 1 rfl) ?_
    obtain ⟨v6, M7, u5, h⟩ := b2_some h
    refine fl_doneI (fl_runV S hK hN (kX4_readsRoom l hJ b hb M v6 M7 u5) (cwV 1 S.2.2.2.2 (gV q_95 q_96 q_97 q_76 q_94) rfl rfl rfl (by decide +kernel) ⟨Nat.le_of_ble_eq_true rfl, Nat.le_of_ble_eq_true rfl⟩) (ci := 4) rfl lC_1 sC_1 rfl hl.1 rfl (Nat.le_of_ble_eq_true rfl) dX4_readsItem_50 ⟨Nat.zero_le _, Nat.zero_le _⟩ hW) hA hW.2 (fun H locs hW => ?_)
    obtain ⟨g8, h⟩ := zb_some h
    obtain ⟨rfl, rfl⟩ := s2 h
    exact fl_zret S.1 S.2.1 hr hlocks g8 hW dX4_readsItem_53
  · replace h := (if_neg c1).symm.trans h
    by_cases c2 : (M.1 1 4) = (108 : Int32)
    · replace h := (if_pos c2).symm.trans h
      refine lv_lookup (off := 62) (tgt := 66) S.1 S.2.1 dX4_readsItem_4 (by decide) (by rw [c2]; decide) (by decide) ?_
      refine lv_aload_n S.1 S.2.1 dX4_readsItem_66 rfl (lv_at hl 0 rfl) ?_
      refine lv_aload_n S.1 S.2.1 dX4_readsItem_67 rfl (lv_at hl 1 rfl) ?_
      obtain ⟨v10, M11, u9, h⟩ := b2_some h
      refine fl_doneI (fl_runV S hK hN (kX4_readsLife l hJ b hb M v10 M11 u9) (cwV 1 S.2.2.2.2 (gV q_99 q_100 q_101 q_76 q_98) rfl rfl rfl (by decide +kernel) ⟨Nat.le_of_ble_eq_true rfl, Nat.le_of_ble_eq_true rfl⟩) (ci := 4) rfl lC_1 sC_1 rfl hl.1 rfl (Nat.le_of_ble_eq_true rfl) dX4_readsItem_68 ⟨Nat.zero_le _, Nat.zero_le _⟩ hW) hA hW.2 (fun H locs hW => ?_)
      obtain ⟨g12, h⟩ := zb_some h
      obtain ⟨rfl, rfl⟩ := s2 h
      exact fl_zret S.1 S.2.1 hr hlocks g12 hW dX4_readsItem_71
    · replace h := (if_neg c2).symm.trans h
      by_cases c3 : (M.1 1 4) = (109 : Int32)
      · replace h := (if_pos c3).symm.trans h
        refine lv_lookup (off := 56) (tgt := 60) S.1 S.2.1 dX4_readsItem_4 (by decide) (by rw [c3]; decide) (by decide) ?_
        refine lv_aload_n S.1 S.2.1 dX4_readsItem_60 rfl (lv_at hl 0 rfl) ?_
        refine lv_aload_n S.1 S.2.1 dX4_readsItem_61 rfl (lv_at hl 1 rfl) ?_
        obtain ⟨v14, M15, u13, h⟩ := b2_some h
        refine fl_doneI (fl_runV S hK hN (kX4_readsMothers l hJ b hb M v14 M15 u13) (cwV 1 S.2.2.2.2 (gV q_103 q_104 q_105 q_76 q_102) rfl rfl rfl (by decide +kernel) ⟨Nat.le_of_ble_eq_true rfl, Nat.le_of_ble_eq_true rfl⟩) (ci := 4) rfl lC_1 sC_1 rfl hl.1 rfl (Nat.le_of_ble_eq_true rfl) dX4_readsItem_62 ⟨Nat.zero_le _, Nat.zero_le _⟩ hW) hA hW.2 (fun H locs hW => ?_)
        obtain ⟨g16, h⟩ := zb_some h
        obtain ⟨rfl, rfl⟩ := s2 h
        exact fl_zret S.1 S.2.1 hr hlocks g16 hW dX4_readsItem_65
      · replace h := (if_neg c3).symm.trans h
        by_cases c4 : (M.1 1 4) = (119 : Int32)
        · replace h := (if_pos c4).symm.trans h
          refine lv_lookup (off := 50) (tgt := 54) S.1 S.2.1 dX4_readsItem_4 (by decide) (by rw [c4]; decide) (by decide) ?_
          refine lv_aload_n S.1 S.2.1 dX4_readsItem_54 rfl (lv_at hl 0 rfl) ?_
          refine lv_aload_n S.1 S.2.1 dX4_readsItem_55 rfl (lv_at hl 1 rfl) ?_
          obtain ⟨v18, M19, u17, h⟩ := b2_some h
          refine fl_doneI (fl_runV S hK hN (kX4_readsWork l hJ b hb M v18 M19 u17) (cwV 1 S.2.2.2.2 (gV q_107 q_108 q_109 q_76 q_106) rfl rfl rfl (by decide +kernel) ⟨Nat.le_of_ble_eq_true rfl, Nat.le_of_ble_eq_true rfl⟩) (ci := 4) rfl lC_1 sC_1 rfl hl.1 rfl (Nat.le_of_ble_eq_true rfl) dX4_readsItem_56 ⟨Nat.zero_le _, Nat.zero_le _⟩ hW) hA hW.2 (fun H locs hW => ?_)
          obtain ⟨g20, h⟩ := zb_some h
          obtain ⟨rfl, rfl⟩ := s2 h
          exact fl_zret S.1 S.2.1 hr hlocks g20 hW dX4_readsItem_59
        · replace h := (if_neg c4).symm.trans h
          refine lv_lookup (off := 68) (tgt := 72) S.1 S.2.1 dX4_readsItem_4 (by decide) (lk_out c1 c2 c3 c4) (by decide) ?_
          refine lv_iconst (v := (0 : Int32)) S.1 S.2.1 dX4_readsItem_72 (by decide) ?_
          obtain ⟨rfl, rfl⟩ := s2 h
          exact fl_zret S.1 S.2.1 hr hlocks (Or.inl rfl) hW dX4_readsItem_73
def fX4_readsItemEnd (M : Mm) : Option (Int32 × Mm) :=
  bP (fX4_readToken M) (fun (M2 : Mm) => if (M2.1 1 4) = (59 : Int32) then (some ((1 : Int32), M2)) else (some ((0 : Int32), M2)))
set_option maxHeartbeats 4000000 in
set_option maxRecDepth 100000 in
theorem kX4_readsItemEnd (l : Launch) {D : va_G} {cy : Nat → ClassId} {ad : Nat → Nat} (hJ : Inj ad 80)   (M : Mm) (r : Int32) (M' : Mm) (h : fX4_readsItemEnd M = some (r, M')) : Met l yX4_readsItemEnd vX4_readsItemEnd ({ frames := 3, cells := 0, slots := 0, locals := 65 } : Room) (PcF [.ref (ad 1)] D cy ad kdV shC rfC 80 M) (QcI r D cy ad kdV shC rfC 80 M') 0 0 (AV ad 80) := by
  refine Met.ofW (cc := cX4_readsItemEnd) (maxL := 1) (ret := (some .boolean)) (by decide) rfl ?_
  intro p e s m args below meth c s₁ B hml hv
  obtain ⟨rfl, hP, hK, hN⟩ := hv
  have hr := B.returns
  have hlocks := B.notSynchronized
  have S : CallFix p m c cX4_readsItemEnd 1 s ([.ref (ad 1)] : List Value).toArray vX4_readsItemEnd RX4 := ⟨B.exec, B.bytes, hml, findClass_of_methodNamed B.named, atoms_spec (ws := vX4_readsItemEnd) B.pre⟩
  have hq : ∀ w ∈ GW, w.before ([.ref (ad 1)] : List Value).toArray s = true := fun w h => S.2.2.2.2 w (List.mem_cons_of_mem _ h)
  have hA : ∀ k, k < 80 → AV ad 80 (ad k) := fun k hk => ⟨k, hk, rfl⟩
  have hW : WSt D cy ad kdV shC rfC 80 (AV ad 80) M s.heap s.heap [] := ⟨hP, va_S.rf⟩
  clear hP
  have iX4 : ∀ w ∈ wsX40, w ∈ vX4_readsItemEnd := fun w h => List.mem_cons_of_mem _ (inX4 w h)
  have hl := lv_entry ([.ref (ad 1)]) (n := 1) (Nat.le_of_ble_eq_true rfl)
  rw [lg_entry_eq]
  generalize (lg_sl ([.ref (ad 1)]) ++ List.replicate (1 - (lg_sl ([.ref (ad 1)])).length) Slot.unset).toArray = ls at hl ⊢
  have hl : lv_has ls 1 [(0, .ref (ad 1))] := hl
  rw [fX4_readsItemEnd] at h
  refine lv_aload_n S.1 S.2.1 dX4_readsItemEnd_0 rfl (lv_at hl 0 rfl) ?_
  obtain ⟨M2, u1, h⟩ := bP_some h
  refine fl_doneV (fl_runV S hK hN (kX4_readToken l hJ M M2 u1) (cwV 0 S.2.2.2.2 (gV q_85 q_86 q_87 q_76 q_84) rfl rfl rfl (by decide +kernel) ⟨Nat.le_of_ble_eq_true rfl, Nat.le_of_ble_eq_true rfl⟩) (ci := 4) rfl lC_1 sC_1 rfl hl.1 rfl (Nat.le_of_ble_eq_true rfl) dX4_readsItemEnd_1 ⟨Nat.zero_le _, Nat.zero_le _⟩ hW) hA hW.2 (fun H locs hW => ?_)
  refine lv_aload_n S.1 S.2.1 dX4_readsItemEnd_4 rfl (lv_at hl 0 rfl) ?_
  refine fl_get S hK iX4 rfl lC_1 sC_1 4 (by decide) (hq _ q_79) (fun _ h9 => h9) (fvs_I rfl) hW dX4_readsItemEnd_5 ?_
  refine lv_bipush (v := (59 : Int32)) S.1 S.2.1 dX4_readsItemEnd_8 (by decide) ?_
  refine lv_icmp_ne (tgt := 17) S.1 S.2.1 dX4_readsItemEnd_10 (by decide) (fun c3 => ?_) (fun c3 => ?_)
  · replace h := (if_neg c3).symm.trans h
    refine lv_iconst (v := (0 : Int32)) S.1 S.2.1 dX4_readsItemEnd_17 (by decide) ?_
    obtain ⟨rfl, rfl⟩ := s2 h
    exact fl_zret S.1 S.2.1 hr hlocks (Or.inl rfl) hW dX4_readsItemEnd_18
  · replace h := (if_pos c3).symm.trans h
    refine lv_iconst (v := (1 : Int32)) S.1 S.2.1 dX4_readsItemEnd_13 (by decide) ?_
    refine lv_goto (tgt := 18) S.1 S.2.1 dX4_readsItemEnd_14 (by decide) ?_
    obtain ⟨rfl, rfl⟩ := s2 h
    exact fl_zret S.1 S.2.1 hr hlocks (Or.inr rfl) hW dX4_readsItemEnd_18
def fX4_reads_L21 (b : Nat) : Nat → Int32 → Mm → Option ((Int32 × Mm) ⊕ (Int32 × Mm))
  | 0, _, _ => none
  | n + 1, x2, Ml => if (Ml.1 1 1) < x2 then (some (.inl (x2, Ml))) else (bP (fX4_readToken Ml) (fun (M13 : Mm) => if (M13.1 1 4) = (-1 : Int32) then (some (.inr ((1 : Int32), M13))) else (b2 (fX4_readsItem b M13) (fun (v16 : Int32) (M17 : Mm) => if v16 = 0 then (some (.inr ((0 : Int32), M17))) else (b2 (fX4_readsItemEnd M17) (fun (v20 : Int32) (M21 : Mm) => if v20 = 0 then (some (.inr ((0 : Int32), M21))) else (lt (wI M21 b 3 ((M21.1 b 3) + (1 : Int32))) (fun (M23 : Mm) => fX4_reads_L21 b n (x2 + (1 : Int32)) M23))))))))
def fX4_reads (b : Nat) (M : Mm) : Option (Int32 × Mm) :=
  lt (wI M 1 2 (0 : Int32)) (fun (M1 : Mm) => lt (wI M1 1 6 (0 : Int32)) (fun (M3 : Mm) => lt (wI M3 1 7 (0 : Int32)) (fun (M5 : Mm) => bP (fX5_tellNothing b M5) (fun (M8 : Mm) => bS (fX4_reads_L21 b 50000 (0 : Int32) M8) (fun o26 => (fun (w9 : Int32) (M10 : Mm) => some ((0 : Int32), M10)) o26.1 o26.2) (fun o26 => some o26)))))
set_option maxHeartbeats 4000000 in
set_option maxRecDepth 100000 in
theorem kX4_reads (l : Launch) {D : va_G} {cy : Nat → ClassId} {ad : Nat → Nat} (hJ : Inj ad 80) (b : Nat) (hb : isT b = true)  (M : Mm) (r : Int32) (M' : Mm) (h : fX4_reads b M = some (r, M')) : Met l yX4_reads vX4_reads ({ frames := 6, cells := 0, slots := 0, locals := 130 } : Room) (PcF [.ref (ad 1), .ref (ad b)] D cy ad kdV shC rfC 80 M) (QcI r D cy ad kdV shC rfC 80 M') 0 0 (AV ad 80) := by
  refine Met.ofW (cc := cX4_reads) (maxL := 3) (ret := (some .boolean)) (by decide) rfl ?_
  intro p e s m args below meth c s₁ B hml hv
  obtain ⟨rfl, hP, hK, hN⟩ := hv
  have hr := B.returns
  have hlocks := B.notSynchronized
  have S : CallFix p m c cX4_reads 3 s ([.ref (ad 1), .ref (ad b)] : List Value).toArray vX4_reads RX4 := ⟨B.exec, B.bytes, hml, findClass_of_methodNamed B.named, atoms_spec (ws := vX4_reads) B.pre⟩
  have hq : ∀ w ∈ GW, w.before ([.ref (ad 1), .ref (ad b)] : List Value).toArray s = true := fun w h => S.2.2.2.2 w (List.mem_cons_of_mem _ h)
  have hA : ∀ k, k < 80 → AV ad 80 (ad k) := fun k hk => ⟨k, hk, rfl⟩
  have hW : WSt D cy ad kdV shC rfC 80 (AV ad 80) M s.heap s.heap [] := ⟨hP, va_S.rf⟩
  clear hP
  have iX4 : ∀ w ∈ wsX40, w ∈ vX4_reads := fun w h => List.mem_cons_of_mem _ (inX4 w h)
  have iX5 : ∀ w ∈ wsX50, w ∈ vX4_reads := fun w h => List.mem_cons_of_mem _ (inX5 w h)
  obtain ⟨⟨bl0, bs0⟩, ⟨bl1, bs1⟩, ⟨bl2, bs2⟩, ⟨bl3, bs3⟩, br0, br1, br2⟩ := isT_ok hb
  have hl := lv_entry ([.ref (ad 1), .ref (ad b)]) (n := 3) (Nat.le_of_ble_eq_true rfl)
  rw [lg_entry_eq]
  generalize (lg_sl ([.ref (ad 1), .ref (ad b)]) ++ List.replicate (3 - (lg_sl ([.ref (ad 1), .ref (ad b)])).length) Slot.unset).toArray = ls at hl ⊢
  have hl : lv_has ls 3 [(0, .ref (ad 1)), (1, .ref (ad b))] := hl
  rw [fX4_reads] at h
  refine lv_aload_n S.1 S.2.1 dX4_reads_0 rfl (lv_at hl 0 rfl) ?_
  refine lv_iconst (v := (0 : Int32)) S.1 S.2.1 dX4_reads_1 (by decide) ?_
  refine fl_put S hK hJ hA tyX4 tyX4_ok nmX4 iX4 rfl lC_1 sC_1 2 (by decide) (hq _ q_71) (fun _ h9 => h9) rfl (ty := .int) rfl rfl rfl (wI M 1 2 (0 : Int32)) (by decide) (fvs_setI _ _ _ _ _ _ _ rfl) (fun j _ hj => cof_wI_ne hj) hW dX4_reads_2 (fun H locs hW => ?_)
  obtain ⟨M1, e2, h⟩ := lt_some h
  rw [e2] at hW
  clear e2
  refine lv_aload_n S.1 S.2.1 dX4_reads_5 rfl (lv_at hl 0 rfl) ?_
  refine lv_iconst (v := (0 : Int32)) S.1 S.2.1 dX4_reads_6 (by decide) ?_
  refine fl_put S hK hJ hA tyX4 tyX4_ok nmX4 iX4 rfl lC_1 sC_1 6 (by decide) (hq _ q_92) (fun _ h9 => h9) rfl (ty := .boolean) rfl (zb_narrow (Or.inl rfl)) (zb_fits (Or.inl rfl)) (wI M1 1 6 (0 : Int32)) (by decide) (fvs_setI _ _ _ _ _ _ _ rfl) (fun j _ hj => cof_wI_ne hj) hW dX4_reads_7 (fun H locs hW => ?_)
  obtain ⟨M3, e4, h⟩ := lt_some h
  rw [e4] at hW
  clear e4
  refine lv_aload_n S.1 S.2.1 dX4_reads_10 rfl (lv_at hl 0 rfl) ?_
  refine lv_iconst (v := (0 : Int32)) S.1 S.2.1 dX4_reads_11 (by decide) ?_
  refine fl_put S hK hJ hA tyX4 tyX4_ok nmX4 iX4 rfl lC_1 sC_1 7 (by decide) (hq _ q_93) (fun _ h9 => h9) rfl (ty := .boolean) rfl (zb_narrow (Or.inl rfl)) (zb_fits (Or.inl rfl)) (wI M3 1 7 (0 : Int32)) (by decide) (fvs_setI _ _ _ _ _ _ _ rfl) (fun j _ hj => cof_wI_ne hj) hW dX4_reads_12 (fun H locs hW => ?_)
  obtain ⟨M5, e6, h⟩ := lt_some h
  rw [e6] at hW
  clear e6
  refine lv_aload_n S.1 S.2.1 dX4_reads_15 rfl (lv_at hl 1 rfl) ?_
  obtain ⟨M8, u7, h⟩ := bP_some h
  refine fl_doneV (fl_runVN S hK hN (kX5_tellNothing l hJ b hb M5 M8 u7) ⟨va_cnB 0 S.2.2.2.2 (gN q_110) rfl rfl rfl (hN.m 11 rfl) (hq _ q_61) (by decide +kernel) ⟨Nat.le_of_ble_eq_true rfl, Nat.le_of_ble_eq_true rfl⟩, (hq _ q_111), (hq _ q_112)⟩ (ci := 5) rfl bl0 bs0 rfl hl.1 rfl (Nat.le_of_ble_eq_true rfl) dX4_reads_16 ⟨Nat.zero_le _, Nat.zero_le _⟩ hW) hA hW.2 (fun H locs hW => ?_)
  refine lv_iconst (v := (0 : Int32)) S.1 S.2.1 dX4_reads_19 (by decide) ?_
  refine lv_istore_n (lv' := [(2, .int (0 : Int32)), (0, .ref (ad 1)), (1, .ref (ad b))]) S.1 S.2.1 dX4_reads_20 rfl hl (by decide) rfl (fun ls hl => ?_)
  have L21 : ∀ (n : Nat) (x2 : Int32) (Ml : Mm) (o : (Int32 × Mm) ⊕ (Int32 × Mm)), fX4_reads_L21 b n x2 Ml = some o → ∀ (H : Heap) (locs : List Loc) (ls : Array Slot), lv_has ls 3 [(0, .ref (ad 1)), (1, .ref (ad b)), (2, .int x2)] → WSt D cy ad kdV shC rfC 80 (AV ad 80) Ml s.heap H locs → (∀ (w9 : Int32) (M10 : Mm), o = .inl (w9, M10) → ∀ (H : Heap) (locs : List Loc) (ls : Array Slot), lv_has ls 3 [(0, .ref (ad 1)), (1, .ref (ad b)), (2, .int w9)] → WSt D cy ad kdV shC rfC 80 (AV ad 80) M10 s.heap H locs → W p l e (headSpec vX4_reads ({ frames := 6, cells := 0, slots := 0, locals := 130 } : Room)).room s m ([.ref (ad 1), .ref (ad b)] : List Value).toArray below meth c H locs 0 0 (MQ below (QcI r D cy ad kdV shC rfC 80 M') ([.ref (ad 1), .ref (ad b)] : List Value).toArray s 0 0 (AV ad 80)) (F0 m 76 ls [])) → (∀ (rr : Int32 × Mm), o = .inr rr → (rr.1 = 0 ∨ rr.1 = 1) → ∀ (H : Heap) (locs : List Loc) (ls : Array Slot) (pc : Nat), WSt D cy ad kdV shC rfC 80 (AV ad 80) rr.2 s.heap H locs → decode cX4_reads pc = .ok (.ireturn, 1) → W p l e (headSpec vX4_reads ({ frames := 6, cells := 0, slots := 0, locals := 130 } : Room)).room s m ([.ref (ad 1), .ref (ad b)] : List Value).toArray below meth c H locs 0 0 (MQ below (QcI r D cy ad kdV shC rfC 80 M') ([.ref (ad 1), .ref (ad b)] : List Value).toArray s 0 0 (AV ad 80)) (F0 m pc ls [.int rr.1])) → W p l e (headSpec vX4_reads ({ frames := 6, cells := 0, slots := 0, locals := 130 } : Room)).room s m ([.ref (ad 1), .ref (ad b)] : List Value).toArray below meth c H locs 0 0 (MQ below (QcI r D cy ad kdV shC rfC 80 M') ([.ref (ad 1), .ref (ad b)] : List Value).toArray s 0 0 (AV ad 80)) (F0 m 21 ls []) := by
    intro n
    induction n with
    | zero => intro x2 Ml o h; cases h
    | succ n ih =>
      intro x2 Ml o h H locs ls hl hW K K2
      rw [fX4_reads_L21] at h
      refine lv_iload_n S.1 S.2.1 dX4_reads_21 rfl (lv_at hl 2 rfl) ?_
      refine lv_aload_n S.1 S.2.1 dX4_reads_22 rfl (lv_at hl 0 rfl) ?_
      refine fl_get S hK iX4 rfl lC_1 sC_1 1 (by decide) (hq _ q_65) (fun _ h9 => h9) (fvs_I rfl) hW dX4_reads_23 ?_
      refine lv_icmp_gt (tgt := 76) S.1 S.2.1 dX4_reads_26 (by decide) (fun c11 => ?_) (fun c11 => ?_)
      · replace h := (if_pos c11).symm.trans h
        exact K _ _ (Option.some.inj h).symm _ _ _ hl hW
      · replace h := (if_neg c11).symm.trans h
        refine lv_aload_n S.1 S.2.1 dX4_reads_29 rfl (lv_at hl 0 rfl) ?_
        obtain ⟨M13, u12, h⟩ := bP_some h
        refine fl_doneV (fl_runV S hK hN (kX4_readToken l hJ Ml M13 u12) (cwV 0 S.2.2.2.2 (gV q_85 q_86 q_87 q_76 q_84) rfl rfl rfl (by decide +kernel) ⟨Nat.le_of_ble_eq_true rfl, Nat.le_of_ble_eq_true rfl⟩) (ci := 4) rfl lC_1 sC_1 rfl hl.1 rfl (Nat.le_of_ble_eq_true rfl) dX4_reads_30 ⟨Nat.zero_le _, Nat.zero_le _⟩ hW) hA hW.2 (fun H locs hW => ?_)
        refine lv_aload_n S.1 S.2.1 dX4_reads_33 rfl (lv_at hl 0 rfl) ?_
        refine fl_get S hK iX4 rfl lC_1 sC_1 4 (by decide) (hq _ q_79) (fun _ h9 => h9) (fvs_I rfl) hW dX4_reads_34 ?_
        refine lv_iconst (v := (-1 : Int32)) S.1 S.2.1 dX4_reads_37 (by decide) ?_
        refine lv_icmp_ne (tgt := 43) S.1 S.2.1 dX4_reads_38 (by decide) (fun c14 => ?_) (fun c14 => ?_)
        · replace h := (if_neg c14).symm.trans h
          refine lv_aload_n S.1 S.2.1 dX4_reads_43 rfl (lv_at hl 0 rfl) ?_
          refine lv_aload_n S.1 S.2.1 dX4_reads_44 rfl (lv_at hl 1 rfl) ?_
          obtain ⟨v16, M17, u15, h⟩ := b2_some h
          refine fl_doneI (fl_runV S hK hN (kX4_readsItem l hJ b hb M13 v16 M17 u15) (cwV 1 S.2.2.2.2 (gV q_114 q_115 q_116 q_76 q_113) rfl rfl rfl (by decide +kernel) ⟨Nat.le_of_ble_eq_true rfl, Nat.le_of_ble_eq_true rfl⟩) (ci := 4) rfl lC_1 sC_1 rfl hl.1 rfl (Nat.le_of_ble_eq_true rfl) dX4_reads_45 ⟨Nat.zero_le _, Nat.zero_le _⟩ hW) hA hW.2 (fun H locs hW => ?_)
          refine lv_if_eq (tgt := 58) S.1 S.2.1 dX4_reads_48 (by decide) (fun c18 => ?_) (fun c18 => ?_)
          · replace h := (if_pos c18).symm.trans h
            refine lv_iconst (v := (0 : Int32)) S.1 S.2.1 dX4_reads_58 (by decide) ?_
            exact K2 _ (Option.some.inj h).symm (Or.inl rfl) _ _ _ _ hW dX4_reads_59
          · replace h := (if_neg c18).symm.trans h
            refine lv_aload_n S.1 S.2.1 dX4_reads_51 rfl (lv_at hl 0 rfl) ?_
            obtain ⟨v20, M21, u19, h⟩ := b2_some h
            refine fl_doneI (fl_runV S hK hN (kX4_readsItemEnd l hJ M17 v20 M21 u19) (cwV 0 S.2.2.2.2 (gV q_118 q_119 q_120 q_76 q_117) rfl rfl rfl (by decide +kernel) ⟨Nat.le_of_ble_eq_true rfl, Nat.le_of_ble_eq_true rfl⟩) (ci := 4) rfl lC_1 sC_1 rfl hl.1 rfl (Nat.le_of_ble_eq_true rfl) dX4_reads_52 ⟨Nat.zero_le _, Nat.zero_le _⟩ hW) hA hW.2 (fun H locs hW => ?_)
            refine lv_if_ne (tgt := 60) S.1 S.2.1 dX4_reads_55 (by decide) (fun c22 => ?_) (fun c22 => ?_)
            · replace h := (if_neg c22).symm.trans h
              refine lv_aload_n S.1 S.2.1 dX4_reads_60 rfl (lv_at hl 1 rfl) ?_
              refine lv_dup S.1 S.2.1 dX4_reads_61 rfl ?_
              refine fl_getN S hK iX5 rfl bl0 bs0 3 (by decide) (hN.f 19 rfl) (fun _ h9 => h9) (fvs_I rfl) hW dX4_reads_62 ?_
              refine lv_iconst (v := (1 : Int32)) S.1 S.2.1 dX4_reads_65 (by decide) ?_
              refine lv_iadd S.1 S.2.1 dX4_reads_66 ?_
              refine fl_putN S hK hJ hA tyX5 tyX5_ok nmX5 iX5 rfl bl0 bs0 3 (by decide) (hN.f 19 rfl) (fun _ h9 => h9) rfl (ty := .int) rfl rfl rfl (wI M21 b 3 ((M21.1 b 3) + (1 : Int32))) (by decide) (fvs_setI _ _ _ _ _ _ _ rfl) (fun j _ hj => cof_wI_ne hj) hW dX4_reads_67 (fun H locs hW => ?_)
              obtain ⟨M23, e24, h⟩ := lt_some h
              rw [e24] at hW
              clear e24
              refine lv_iinc (v := x2 + (1 : Int32)) (lv' := [(2, .int (x2 + (1 : Int32))), (0, .ref (ad 1)), (1, .ref (ad b))]) S.1 S.2.1 dX4_reads_70 hl (k := 2) rfl rfl (by decide) rfl (fun ls hl => ?_)
              refine lv_goto (tgt := 21) S.1 S.2.1 dX4_reads_73 (by decide) ?_
              exact ih _ _ _ h _ _ _ (lv_sub hl [1, 2, 0] rfl) hW K K2
            · replace h := (if_pos c22).symm.trans h
              refine lv_iconst (v := (0 : Int32)) S.1 S.2.1 dX4_reads_58 (by decide) ?_
              exact K2 _ (Option.some.inj h).symm (Or.inl rfl) _ _ _ _ hW dX4_reads_59
        · replace h := (if_pos c14).symm.trans h
          refine lv_iconst (v := (1 : Int32)) S.1 S.2.1 dX4_reads_41 (by decide) ?_
          exact K2 _ (Option.some.inj h).symm (Or.inr rfl) _ _ _ _ hW dX4_reads_42
  rcases bS_some h with ⟨o26, u25, h⟩ | ⟨o26, u25, h⟩
  · obtain ⟨w9, M10⟩ := o26
    refine L21 50000 _ _ _ u25 _ _ _ (lv_sub hl [1, 2, 0] rfl) hW (fun w9z M10z e H locs ls hl hW => ?_) (fun rr e => by cases e)
    cases e
    refine lv_iconst (v := (0 : Int32)) S.1 S.2.1 dX4_reads_76 (by decide) ?_
    obtain ⟨rfl, rfl⟩ := s2 h
    exact fl_zret S.1 S.2.1 hr hlocks (Or.inl rfl) hW dX4_reads_77
  · refine L21 50000 _ _ _ u25 _ _ _ (lv_sub hl [1, 2, 0] rfl) hW (fun _ _ e => by cases e) (fun rr e hz H locs ls pc hW hd => ?_)
    cases e
    obtain rfl := s1 h
    exact fl_zret S.1 S.2.1 hr hlocks hz hW hd

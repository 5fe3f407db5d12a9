def fX1_begin_L17 (a : Nat) (b : Nat) : Nat → Int32 → Mm → Option (Int32 × Mm)
  | 0, _, _ => none
  | n + 1, x2, Ml => if (6 : Int32) ≤ x2 then (some (x2, Ml)) else (ix x2 6 (ix x2 6 (lt (wI Ml (a + 1) (x2).toNatClampNeg (Ml.1 (b + 1) (x2).toNatClampNeg)) (fun (M12 : Mm) => bP (fX6_bit x2) (fun (v15 : Int32) => ix x2 6 (lt (wI M12 (a + 2) (x2).toNatClampNeg v15) (fun (M17 : Mm) => fX1_begin_L17 a b n (x2 + (1 : Int32)) M17)))))))
def fX1_begin (a : Nat) (b : Nat) (M : Mm) : Option (Mm) :=
  lt (wI M a 3 (0 : Int32)) (fun (M1 : Mm) => lt (wI M1 a 4 (0 : Int32)) (fun (M3 : Mm) => lt (wI M3 a 5 (0 : Int32)) (fun (M5 : Mm) => b2 (fX1_begin_L17 a b 50000 (0 : Int32) M5) (fun (w7 : Int32) (M8 : Mm) => some M8))))
set_option maxHeartbeats 4000000 in
set_option maxRecDepth 100000 in
theorem kX1_begin (l : Launch) {D : va_G} {cy : Nat → ClassId} {ad : Nat → Nat} (hJ : Inj ad 80) (a : Nat) (ha : isM a = true) (b : Nat) (hb : isT b = true)  (M : Mm) (M' : Mm) (h : fX1_begin a b M = some M') : Met l yX1_begin vX1_begin ({ frames := 1, cells := 0, slots := 0, locals := 20 } : Room) (PcF [.ref (ad a), .ref (ad b)] D cy ad kdV shC rfC 80 M) (QcV D cy ad kdV shC rfC 80 M') 0 0 (AV ad 80) := by
  refine Met.ofW (cc := cX1_begin) (maxL := 3) (ret := none) (by decide) rfl ?_
  intro p e s m args below meth c s₁ B hml hv
  obtain ⟨rfl, hP, hK, hN⟩ := hv
  have hr := B.returns
  have hlocks := B.notSynchronized
  have S : CallFix p m c cX1_begin 3 s ([.ref (ad a), .ref (ad b)] : List Value).toArray vX1_begin RX1 := ⟨B.exec, B.bytes, hml, findClass_of_methodNamed B.named, atoms_spec (ws := vX1_begin) B.pre⟩
  have hq : ∀ w ∈ GW, w.before ([.ref (ad a), .ref (ad b)] : List Value).toArray s = true := fun w h => S.2.2.2.2 w (List.mem_cons_of_mem _ h)
  have hA : ∀ k, k < 80 → AV ad 80 (ad k) := fun k hk => ⟨k, hk, rfl⟩
  have hW : WSt D cy ad kdV shC rfC 80 (AV ad 80) M s.heap s.heap [] := ⟨hP, va_S.rf⟩
  clear hP
  have iX1 : ∀ w ∈ wsX10, w ∈ vX1_begin := fun w h => List.mem_cons_of_mem _ (inX1 w h)
  have iX5 : ∀ w ∈ wsX50, w ∈ vX1_begin := fun w h => List.mem_cons_of_mem _ (inX5 w h)
  obtain ⟨⟨al0, as0⟩, ⟨al1, as1⟩, ⟨al2, as2⟩, ⟨al3, as3⟩, ar0, ar1, ar2⟩ := isM_ok ha
  obtain ⟨⟨bl0, bs0⟩, ⟨bl1, bs1⟩, ⟨bl2, bs2⟩, ⟨bl3, bs3⟩, br0, br1, br2⟩ := isT_ok hb
  have hl := lv_entry ([.ref (ad a), .ref (ad b)]) (n := 3) (Nat.le_of_ble_eq_true rfl)
  rw [lg_entry_eq]
  generalize (lg_sl ([.ref (ad a), .ref (ad b)]) ++ List.replicate (3 - (lg_sl ([.ref (ad a), .ref (ad b)])).length) Slot.unset).toArray = ls at hl ⊢
  have hl : lv_has ls 3 [(0, .ref (ad a)), (1, .ref (ad b))] := hl
  rw [fX1_begin] at h
  refine lv_aload_n S.1 S.2.1 dX1_begin_0 rfl (lv_at hl 0 rfl) ?_
  refine lv_iconst (v := (0 : Int32)) S.1 S.2.1 dX1_begin_1 (by decide) ?_
  refine fl_put S hK hJ hA tyX1 tyX1_ok nmX1 iX1 rfl al0 as0 3 (by decide) (hq _ q_27) (fun _ h9 => h9) rfl (ty := .int) rfl rfl rfl (wI M a 3 (0 : Int32)) (by decide) (fvs_setI _ _ _ _ _ _ _ rfl) (fun j _ hj => cof_wI_ne hj) hW dX1_begin_2 (fun H locs hW => ?_)
  obtain ⟨M1, e2, h⟩ := lt_some h
  rw [e2] at hW
  clear e2
  refine lv_aload_n S.1 S.2.1 dX1_begin_5 rfl (lv_at hl 0 rfl) ?_
  refine lv_iconst (v := (0 : Int32)) S.1 S.2.1 dX1_begin_6 (by decide) ?_
  refine fl_put S hK hJ hA tyX1 tyX1_ok nmX1 iX1 rfl al0 as0 4 (by decide) (hq _ q_28) (fun _ h9 => h9) rfl (ty := .int) rfl rfl rfl (wI M1 a 4 (0 : Int32)) (by decide) (fvs_setI _ _ _ _ _ _ _ rfl) (fun j _ hj => cof_wI_ne hj) hW dX1_begin_7 (fun H locs hW => ?_)
  obtain ⟨M3, e4, h⟩ := lt_some h
  rw [e4] at hW
  clear e4
  refine lv_aload_n S.1 S.2.1 dX1_begin_10 rfl (lv_at hl 0 rfl) ?_
  refine lv_iconst (v := (0 : Int32)) S.1 S.2.1 dX1_begin_11 (by decide) ?_
  refine fl_put S hK hJ hA tyX1 tyX1_ok nmX1 iX1 rfl al0 as0 5 (by decide) (hq _ q_29) (fun _ h9 => h9) rfl (ty := .int) rfl rfl rfl (wI M3 a 5 (0 : Int32)) (by decide) (fvs_setI _ _ _ _ _ _ _ rfl) (fun j _ hj => cof_wI_ne hj) hW dX1_begin_12 (fun H locs hW => ?_)
  obtain ⟨M5, e6, h⟩ := lt_some h
  rw [e6] at hW
  clear e6
  refine lv_iconst (v := (0 : Int32)) S.1 S.2.1 dX1_begin_15 (by decide) ?_
  refine lv_istore_n (lv' := [(2, .int (0 : Int32)), (0, .ref (ad a)), (1, .ref (ad b))]) S.1 S.2.1 dX1_begin_16 rfl hl (by decide) rfl (fun ls hl => ?_)
  have L17 : ∀ (n : Nat) (x2 : Int32) (Ml : Mm) (w7 : Int32) (M8 : Mm), fX1_begin_L17 a b n x2 Ml = some (w7, M8) → ∀ (H : Heap) (locs : List Loc) (ls : Array Slot), lv_has ls 3 [(0, .ref (ad a)), (1, .ref (ad b)), (2, .int x2)] → WSt D cy ad kdV shC rfC 80 (AV ad 80) Ml s.heap H locs → (∀ (H : Heap) (locs : List Loc) (ls : Array Slot), lv_has ls 3 [(0, .ref (ad a)), (1, .ref (ad b)), (2, .int w7)] → WSt D cy ad kdV shC rfC 80 (AV ad 80) M8 s.heap H locs → W p l e (headSpec vX1_begin ({ frames := 1, cells := 0, slots := 0, locals := 20 } : Room)).room s m ([.ref (ad a), .ref (ad b)] : List Value).toArray below meth c H locs 0 0 (MQ below (QcV D cy ad kdV shC rfC 80 M') ([.ref (ad a), .ref (ad b)] : List Value).toArray s 0 0 (AV ad 80)) (F0 m 51 ls [])) → W p l e (headSpec vX1_begin ({ frames := 1, cells := 0, slots := 0, locals := 20 } : Room)).room s m ([.ref (ad a), .ref (ad b)] : List Value).toArray below meth c H locs 0 0 (MQ below (QcV D cy ad kdV shC rfC 80 M') ([.ref (ad a), .ref (ad b)] : List Value).toArray s 0 0 (AV ad 80)) (F0 m 17 ls []) := by
    intro n
    induction n with
    | zero => intro x2 Ml w7 M8 h; cases h
    | succ n ih =>
      intro x2 Ml w7 M8 h H locs ls hl hW K
      rw [fX1_begin_L17] at h
      refine lv_iload_n S.1 S.2.1 dX1_begin_17 rfl (lv_at hl 2 rfl) ?_
      refine lv_bipush (v := (6 : Int32)) S.1 S.2.1 dX1_begin_18 (by decide) ?_
      refine lv_icmp_ge (tgt := 51) S.1 S.2.1 dX1_begin_20 (by decide) (fun c9 => ?_) (fun c9 => ?_)
      · replace h := (if_pos c9).symm.trans h
        obtain ⟨rfl, rfl⟩ := s2 h
        exact K _ _ _ hl hW
      · replace h := (if_neg c9).symm.trans h
        refine lv_aload_n S.1 S.2.1 dX1_begin_23 rfl (lv_at hl 0 rfl) ?_
        refine fl_get S hK iX1 rfl al0 as0 0 (by decide) (hq _ q_30) (fun _ h9 => h9) (fvs_R rfl ar0) hW dX1_begin_24 ?_
        refine lv_iload_n S.1 S.2.1 dX1_begin_27 rfl (lv_at hl 2 rfl) ?_
        refine lv_aload_n S.1 S.2.1 dX1_begin_28 rfl (lv_at hl 1 rfl) ?_
        refine fl_getN S hK iX5 rfl bl0 bs0 0 (by decide) (hN.f 13 rfl) (fun _ h9 => h9) (fvs_R rfl br0) hW dX1_begin_29 ?_
        refine lv_iload_n S.1 S.2.1 dX1_begin_32 rfl (lv_at hl 2 rfl) ?_
        obtain ⟨g10, h⟩ := ix_some h
        refine fl_iald S hK bl1 bs1 g10 hW dX1_begin_33 ?_
        obtain ⟨g11, h⟩ := ix_some h
        refine fl_iast S hK hJ hA al1 as1 g11 hW dX1_begin_34 (fun H locs hW => ?_)
        obtain ⟨M12, e13, h⟩ := lt_some h
        rw [e13] at hW
        clear e13
        refine lv_aload_n S.1 S.2.1 dX1_begin_35 rfl (lv_at hl 0 rfl) ?_
        refine fl_get S hK iX1 rfl al0 as0 1 (by decide) (hq _ q_31) (fun _ h9 => h9) (fvs_R rfl ar1) hW dX1_begin_36 ?_
        refine lv_iload_n S.1 S.2.1 dX1_begin_39 rfl (lv_at hl 2 rfl) ?_
        refine lv_iload_n S.1 S.2.1 dX1_begin_40 rfl (lv_at hl 2 rfl) ?_
        obtain ⟨v15, u14, h⟩ := bP_some h
        refine fl_doneP (fl_runSN S (kX6_bit l x2 v15 u14) ⟨va_cnB 1 S.2.2.2.2 (gN q_0) rfl rfl rfl (hN.m 8 rfl) (hq _ q_3) (by decide +kernel) ⟨Nat.le_of_ble_eq_true rfl, Nat.le_of_ble_eq_true rfl⟩, (hq _ q_2), trivial⟩ rfl hl.1 rfl (Nat.le_of_ble_eq_true rfl) dX1_begin_41 ⟨Nat.zero_le _, Nat.zero_le _⟩) hW (fun H locs hW => ?_)
        obtain ⟨g16, h⟩ := ix_some h
        refine fl_iast S hK hJ hA al2 as2 g16 hW dX1_begin_44 (fun H locs hW => ?_)
        obtain ⟨M17, e18, h⟩ := lt_some h
        rw [e18] at hW
        clear e18
        refine lv_iinc (v := x2 + (1 : Int32)) (lv' := [(2, .int (x2 + (1 : Int32))), (0, .ref (ad a)), (1, .ref (ad b))]) S.1 S.2.1 dX1_begin_45 hl (k := 2) rfl rfl (by decide) rfl (fun ls hl => ?_)
        refine lv_goto (tgt := 17) S.1 S.2.1 dX1_begin_48 (by decide) ?_
        exact ih _ _ _ _ h _ _ _ (lv_sub hl [1, 2, 0] rfl) hW K
  obtain ⟨w7, M8, u19, h⟩ := b2_some h
  refine L17 50000 _ _ _ _ u19 _ _ _ (lv_sub hl [1, 2, 0] rfl) hW (fun H locs ls hl hW => ?_)
  clear L17
  obtain rfl := s1 h
  exact fl_vret S.1 S.2.1 hr hlocks hW dX1_begin_51
def fX1_become (a : Nat) (b : Nat) (M : Mm) : Option (Mm) :=
  lt (wI M a 3 (M.1 b 3)) (fun (M1 : Mm) => lt (wI M1 a 4 (M1.1 b 4)) (fun (M3 : Mm) => lt (wI M3 a 5 (M3.1 b 5)) (fun (M5 : Mm) => lt (wA M5 (a + 1) (va_cpy (M5.1 (b + 1)) (M5.1 (a + 1)) 0 0 ((6 : Int32)).toNatClampNeg)) (fun (M7 : Mm) => lt (wA M7 (a + 2) (va_cpy (M7.1 (b + 2)) (M7.1 (a + 2)) 0 0 ((6 : Int32)).toNatClampNeg)) (fun (M9 : Mm) => lt (wA M9 (a + 3) (va_cpy (M9.1 (b + 3)) (M9.1 (a + 3)) 0 0 ((6 : Int32)).toNatClampNeg)) (fun (M11 : Mm) => some M11))))))
set_option maxHeartbeats 4000000 in
set_option maxRecDepth 100000 in
theorem kX1_become (l : Launch) {D : va_G} {cy : Nat → ClassId} {ad : Nat → Nat} (hJ : Inj ad 80) (a : Nat) (ha : isM a = true) (b : Nat) (hb : isM b = true)  (M : Mm) (M' : Mm) (h : fX1_become a b M = some M') : Met l yX1_become vX1_become ({ frames := 1, cells := 0, slots := 0, locals := 64 } : Room) (PcF [.ref (ad a), .ref (ad b)] D cy ad kdV shC rfC 80 M) (QcV D cy ad kdV shC rfC 80 M') 0 0 (AV ad 80) := by
  refine Met.ofW (cc := cX1_become) (maxL := 2) (ret := none) (by decide) rfl ?_
  intro p e s m args below meth c s₁ B hml hv
  obtain ⟨rfl, hP, hK, hN⟩ := hv
  have hr := B.returns
  have hlocks := B.notSynchronized
  have S : CallFix p m c cX1_become 2 s ([.ref (ad a), .ref (ad b)] : List Value).toArray vX1_become RX1 := ⟨B.exec, B.bytes, hml, findClass_of_methodNamed B.named, atoms_spec (ws := vX1_become) B.pre⟩
  have hq : ∀ w ∈ GW, w.before ([.ref (ad a), .ref (ad b)] : List Value).toArray s = true := fun w h => S.2.2.2.2 w (List.mem_cons_of_mem _ h)
  have hA : ∀ k, k < 80 → AV ad 80 (ad k) := fun k hk => ⟨k, hk, rfl⟩
  have hW : WSt D cy ad kdV shC rfC 80 (AV ad 80) M s.heap s.heap [] := ⟨hP, va_S.rf⟩
  clear hP
  have iX1 : ∀ w ∈ wsX10, w ∈ vX1_become := fun w h => List.mem_cons_of_mem _ (inX1 w h)
  obtain ⟨⟨al0, as0⟩, ⟨al1, as1⟩, ⟨al2, as2⟩, ⟨al3, as3⟩, ar0, ar1, ar2⟩ := isM_ok ha
  obtain ⟨⟨bl0, bs0⟩, ⟨bl1, bs1⟩, ⟨bl2, bs2⟩, ⟨bl3, bs3⟩, br0, br1, br2⟩ := isM_ok hb
  have hl := lv_entry ([.ref (ad a), .ref (ad b)]) (n := 2) (Nat.le_of_ble_eq_true rfl)
  rw [lg_entry_eq]
  generalize (lg_sl ([.ref (ad a), .ref (ad b)]) ++ List.replicate (2 - (lg_sl ([.ref (ad a), .ref (ad b)])).length) Slot.unset).toArray = ls at hl ⊢
  have hl : lv_has ls 2 [(0, .ref (ad a)), (1, .ref (ad b))] := hl
  rw [fX1_become] at h
  refine lv_aload_n S.1 S.2.1 dX1_become_0 rfl (lv_at hl 0 rfl) ?_
  refine lv_aload_n S.1 S.2.1 dX1_become_1 rfl (lv_at hl 1 rfl) ?_
  refine fl_get S hK iX1 rfl bl0 bs0 3 (by decide) (hq _ q_27) (fun _ h9 => h9) (fvs_I rfl) hW dX1_become_2 ?_
  refine fl_put S hK hJ hA tyX1 tyX1_ok nmX1 iX1 rfl al0 as0 3 (by decide) (hq _ q_27) (fun _ h9 => h9) rfl (ty := .int) rfl rfl rfl (wI M a 3 (M.1 b 3)) (by decide) (fvs_setI _ _ _ _ _ _ _ rfl) (fun j _ hj => cof_wI_ne hj) hW dX1_become_5 (fun H locs hW => ?_)
  obtain ⟨M1, e2, h⟩ := lt_some h
  rw [e2] at hW
  clear e2
  refine lv_aload_n S.1 S.2.1 dX1_become_8 rfl (lv_at hl 0 rfl) ?_
  refine lv_aload_n S.1 S.2.1 dX1_become_9 rfl (lv_at hl 1 rfl) ?_
  refine fl_get S hK iX1 rfl bl0 bs0 4 (by decide) (hq _ q_28) (fun _ h9 => h9) (fvs_I rfl) hW dX1_become_10 ?_
  refine fl_put S hK hJ hA tyX1 tyX1_ok nmX1 iX1 rfl al0 as0 4 (by decide) (hq _ q_28) (fun _ h9 => h9) rfl (ty := .int) rfl rfl rfl (wI M1 a 4 (M1.1 b 4)) (by decide) (fvs_setI _ _ _ _ _ _ _ rfl) (fun j _ hj => cof_wI_ne hj) hW dX1_become_13 (fun H locs hW => ?_)
  obtain ⟨M3, e4, h⟩ := lt_some h
  rw [e4] at hW
  clear e4
  refine lv_aload_n S.1 S.2.1 dX1_become_16 rfl (lv_at hl 0 rfl) ?_
  refine lv_aload_n S.1 S.2.1 dX1_become_17 rfl (lv_at hl 1 rfl) ?_
  refine fl_get S hK iX1 rfl bl0 bs0 5 (by decide) (hq _ q_29) (fun _ h9 => h9) (fvs_I rfl) hW dX1_become_18 ?_
  refine fl_put S hK hJ hA tyX1 tyX1_ok nmX1 iX1 rfl al0 as0 5 (by decide) (hq _ q_29) (fun _ h9 => h9) rfl (ty := .int) rfl rfl rfl (wI M3 a 5 (M3.1 b 5)) (by decide) (fvs_setI _ _ _ _ _ _ _ rfl) (fun j _ hj => cof_wI_ne hj) hW dX1_become_21 (fun H locs hW => ?_)
  obtain ⟨M5, e6, h⟩ := lt_some h
  rw [e6] at hW
  clear e6
  refine lv_aload_n S.1 S.2.1 dX1_become_24 rfl (lv_at hl 1 rfl) ?_
  refine fl_get S hK iX1 rfl bl0 bs0 0 (by decide) (hq _ q_30) (fun _ h9 => h9) (fvs_R rfl br0) hW dX1_become_25 ?_
  refine lv_iconst (v := (0 : Int32)) S.1 S.2.1 dX1_become_28 (by decide) ?_
  refine lv_aload_n S.1 S.2.1 dX1_become_29 rfl (lv_at hl 0 rfl) ?_
  refine fl_get S hK iX1 rfl al0 as0 0 (by decide) (hq _ q_30) (fun _ h9 => h9) (fvs_R rfl ar0) hW dX1_become_30 ?_
  refine lv_iconst (v := (0 : Int32)) S.1 S.2.1 dX1_become_33 (by decide) ?_
  refine lv_bipush (v := (6 : Int32)) S.1 S.2.1 dX1_become_34 (by decide) ?_
  refine fl_copy S hK hJ hA hl.1 (hq _ q_32) (hq _ q_33) (hq _ q_34) (hq _ q_35) al1 as1 bl1 bs1 (by decide) (by decide) (Nat.le_of_ble_eq_true rfl) (Nat.le_of_ble_eq_true rfl) hW dX1_become_36 (fun H locs hW => ?_)
  obtain ⟨M7, e8, h⟩ := lt_some h
  rw [e8] at hW
  clear e8
  refine lv_aload_n S.1 S.2.1 dX1_become_39 rfl (lv_at hl 1 rfl) ?_
  refine fl_get S hK iX1 rfl bl0 bs0 1 (by decide) (hq _ q_31) (fun _ h9 => h9) (fvs_R rfl br1) hW dX1_become_40 ?_
  refine lv_iconst (v := (0 : Int32)) S.1 S.2.1 dX1_become_43 (by decide) ?_
  refine lv_aload_n S.1 S.2.1 dX1_become_44 rfl (lv_at hl 0 rfl) ?_
  refine fl_get S hK iX1 rfl al0 as0 1 (by decide) (hq _ q_31) (fun _ h9 => h9) (fvs_R rfl ar1) hW dX1_become_45 ?_
  refine lv_iconst (v := (0 : Int32)) S.1 S.2.1 dX1_become_48 (by decide) ?_
  refine lv_bipush (v := (6 : Int32)) S.1 S.2.1 dX1_become_49 (by decide) ?_
  refine fl_copy S hK hJ hA hl.1 (hq _ q_32) (hq _ q_33) (hq _ q_34) (hq _ q_35) al2 as2 bl2 bs2 (by decide) (by decide) (Nat.le_of_ble_eq_true rfl) (Nat.le_of_ble_eq_true rfl) hW dX1_become_51 (fun H locs hW => ?_)
  obtain ⟨M9, e10, h⟩ := lt_some h
  rw [e10] at hW
  clear e10
  refine lv_aload_n S.1 S.2.1 dX1_become_54 rfl (lv_at hl 1 rfl) ?_
  refine fl_get S hK iX1 rfl bl0 bs0 2 (by decide) (hq _ q_36) (fun _ h9 => h9) (fvs_R rfl br2) hW dX1_become_55 ?_
  refine lv_iconst (v := (0 : Int32)) S.1 S.2.1 dX1_become_58 (by decide) ?_
  refine lv_aload_n S.1 S.2.1 dX1_become_59 rfl (lv_at hl 0 rfl) ?_
  refine fl_get S hK iX1 rfl al0 as0 2 (by decide) (hq _ q_36) (fun _ h9 => h9) (fvs_R rfl ar2) hW dX1_become_60 ?_
  refine lv_iconst (v := (0 : Int32)) S.1 S.2.1 dX1_become_63 (by decide) ?_
  refine lv_bipush (v := (6 : Int32)) S.1 S.2.1 dX1_become_64 (by decide) ?_
  refine fl_copy S hK hJ hA hl.1 (hq _ q_32) (hq _ q_33) (hq _ q_34) (hq _ q_35) al3 as3 bl3 bs3 (by decide) (by decide) (Nat.le_of_ble_eq_true rfl) (Nat.le_of_ble_eq_true rfl) hW dX1_become_66 (fun H locs hW => ?_)
  obtain ⟨M11, e12, h⟩ := lt_some h
  rw [e12] at hW
  clear e12
  obtain rfl := s1 h
  exact fl_vret S.1 S.2.1 hr hlocks hW dX1_become_69
def fX1_ageTogether_L7 (a : Nat) (p1 : Int32) (M : Mm) : Nat → Int32 → Int32 → Int32 → Option (Int32 × Int32 × Int32)
  | 0, _, _, _ => none
  | n + 1, x2, x3, x4 => if (6 : Int32) ≤ x4 then (some (x2, x3, x4)) else (bP (fX6_has p1 x4) (fun (v6 : Int32) => if v6 = 0 then (fX1_ageTogether_L7 a p1 M n x2 x3 (x4 + (1 : Int32))) else (ix x4 6 (fX1_ageTogether_L7 a p1 M n (x2 + (M.1 (a + 1) (x4).toNatClampNeg)) (x3 + (1 : Int32)) (x4 + (1 : Int32))))))
def fX1_ageTogether (a : Nat) (p1 : Int32) (M : Mm) : Option (Int32) :=
  b3 (fX1_ageTogether_L7 a p1 M 50000 (0 : Int32) (0 : Int32) (0 : Int32)) (fun (w1 : Int32) (w2 : Int32) (w3 : Int32) => if w2 = 0 then (some (0 : Int32)) else (nz w2 (some (w1 / w2))))
set_option maxHeartbeats 4000000 in
set_option maxRecDepth 100000 in
theorem kX1_ageTogether (l : Launch) {D : va_G} {cy : Nat → ClassId} {ad : Nat → Nat} (hJ : Inj ad 80) (a : Nat) (ha : isM a = true) (p1 : Int32) (M : Mm) (r : Int32) (h : fX1_ageTogether a p1 M = some r) : Met l yX1_ageTogether vX1_ageTogether ({ frames := 2, cells := 0, slots := 0, locals := 41 } : Room) (PcF [.ref (ad a), .int p1] D cy ad kdV shC rfC 80 M) (QcI r D cy ad kdV shC rfC 80 M) 0 0 (AV ad 80) := by
  refine Met.ofW (cc := cX1_ageTogether) (maxL := 5) (ret := (some .int)) (by decide) rfl ?_
  intro p e s m args below meth c s₁ B hml hv
  obtain ⟨rfl, hP, hK, hN⟩ := hv
  have hr := B.returns
  have hlocks := B.notSynchronized
  have S : CallFix p m c cX1_ageTogether 5 s ([.ref (ad a), .int p1] : List Value).toArray vX1_ageTogether RX1 := ⟨B.exec, B.bytes, hml, findClass_of_methodNamed B.named, atoms_spec (ws := vX1_ageTogether) B.pre⟩
  have hq : ∀ w ∈ GW, w.before ([.ref (ad a), .int p1] : List Value).toArray s = true := fun w h => S.2.2.2.2 w (List.mem_cons_of_mem _ h)
  have hA : ∀ k, k < 80 → AV ad 80 (ad k) := fun k hk => ⟨k, hk, rfl⟩
  have hW : WSt D cy ad kdV shC rfC 80 (AV ad 80) M s.heap s.heap [] := ⟨hP, va_S.rf⟩
  clear hP
  have iX1 : ∀ w ∈ wsX10, w ∈ vX1_ageTogether := fun w h => List.mem_cons_of_mem _ (inX1 w h)
  obtain ⟨⟨al0, as0⟩, ⟨al1, as1⟩, ⟨al2, as2⟩, ⟨al3, as3⟩, ar0, ar1, ar2⟩ := isM_ok ha
  have hl := lv_entry ([.ref (ad a), .int p1]) (n := 5) (Nat.le_of_ble_eq_true rfl)
  rw [lg_entry_eq]
  generalize (lg_sl ([.ref (ad a), .int p1]) ++ List.replicate (5 - (lg_sl ([.ref (ad a), .int p1])).length) Slot.unset).toArray = ls at hl ⊢
  have hl : lv_has ls 5 [(0, .ref (ad a)), (1, .int p1)] := hl
  rw [fX1_ageTogether] at h
  refine lv_iconst (v := (0 : Int32)) S.1 S.2.1 dX1_ageTogether_0 (by decide) ?_
  refine lv_istore_n (lv' := [(2, .int (0 : Int32)), (0, .ref (ad a)), (1, .int p1)]) S.1 S.2.1 dX1_ageTogether_1 rfl hl (by decide) rfl (fun ls hl => ?_)
  refine lv_iconst (v := (0 : Int32)) S.1 S.2.1 dX1_ageTogether_2 (by decide) ?_
  refine lv_istore_n (lv' := [(3, .int (0 : Int32)), (2, .int (0 : Int32)), (0, .ref (ad a)), (1, .int p1)]) S.1 S.2.1 dX1_ageTogether_3 rfl hl (by decide) rfl (fun ls hl => ?_)
  refine lv_iconst (v := (0 : Int32)) S.1 S.2.1 dX1_ageTogether_4 (by decide) ?_
  refine lv_istore (lv' := [(4, .int (0 : Int32)), (3, .int (0 : Int32)), (2, .int (0 : Int32)), (0, .ref (ad a)), (1, .int p1)]) S.1 S.2.1 dX1_ageTogether_5 hl (by decide) rfl (fun ls hl => ?_)
  have L7 : ∀ (n : Nat) (x2 : Int32) (x3 : Int32) (x4 : Int32) (w1 : Int32) (w2 : Int32) (w3 : Int32), fX1_ageTogether_L7 a p1 M n x2 x3 x4 = some (w1, w2, w3) → ∀ (H : Heap) (locs : List Loc) (ls : Array Slot), lv_has ls 5 [(0, .ref (ad a)), (1, .int p1), (2, .int x2), (3, .int x3), (4, .int x4)] → WSt D cy ad kdV shC rfC 80 (AV ad 80) M s.heap H locs → (∀ (H : Heap) (locs : List Loc) (ls : Array Slot), lv_has ls 5 [(0, .ref (ad a)), (1, .int p1), (2, .int w1), (3, .int w2), (4, .int w3)] → WSt D cy ad kdV shC rfC 80 (AV ad 80) M s.heap H locs → W p l e (headSpec vX1_ageTogether ({ frames := 2, cells := 0, slots := 0, locals := 41 } : Room)).room s m ([.ref (ad a), .int p1] : List Value).toArray below meth c H locs 0 0 (MQ below (QcI r D cy ad kdV shC rfC 80 M) ([.ref (ad a), .int p1] : List Value).toArray s 0 0 (AV ad 80)) (F0 m 42 ls [])) → W p l e (headSpec vX1_ageTogether ({ frames := 2, cells := 0, slots := 0, locals := 41 } : Room)).room s m ([.ref (ad a), .int p1] : List Value).toArray below meth c H locs 0 0 (MQ below (QcI r D cy ad kdV shC rfC 80 M) ([.ref (ad a), .int p1] : List Value).toArray s 0 0 (AV ad 80)) (F0 m 7 ls []) := by
    intro n
    induction n with
    | zero => intro x2 x3 x4 w1 w2 w3 h; cases h
    | succ n ih =>
      intro x2 x3 x4 w1 w2 w3 h H locs ls hl hW K
      rw [fX1_ageTogether_L7] at h
      refine lv_iload S.1 S.2.1 dX1_ageTogether_7 (lv_at hl 4 rfl) ?_
      refine lv_bipush (v := (6 : Int32)) S.1 S.2.1 dX1_ageTogether_9 (by decide) ?_
      refine lv_icmp_ge (tgt := 42) S.1 S.2.1 dX1_ageTogether_11 (by decide) (fun c4 => ?_) (fun c4 => ?_)
      · replace h := (if_pos c4).symm.trans h
        obtain ⟨rfl, rfl, rfl⟩ := s3 h
        exact K _ _ _ hl hW
      · replace h := (if_neg c4).symm.trans h
        refine lv_iload_n S.1 S.2.1 dX1_ageTogether_14 rfl (lv_at hl 1 rfl) ?_
        refine lv_iload S.1 S.2.1 dX1_ageTogether_15 (lv_at hl 4 rfl) ?_
        obtain ⟨v6, u5, h⟩ := bP_some h
        refine fl_doneP (fl_runSN S (kX6_has l p1 x4 v6 u5) ⟨va_cnB 2 S.2.2.2.2 (gN q_5) rfl rfl rfl (hN.m 13 rfl) (hq _ q_3) (by decide +kernel) ⟨Nat.le_of_ble_eq_true rfl, Nat.le_of_ble_eq_true rfl⟩, (hq _ q_6), trivial⟩ rfl hl.1 rfl (Nat.le_of_ble_eq_true rfl) dX1_ageTogether_17 ⟨Nat.zero_le _, Nat.zero_le _⟩) hW (fun H locs hW => ?_)
        refine lv_if_eq (tgt := 36) S.1 S.2.1 dX1_ageTogether_20 (by decide) (fun c7 => ?_) (fun c7 => ?_)
        · replace h := (if_pos c7).symm.trans h
          refine lv_iinc (v := x4 + (1 : Int32)) (lv' := [(4, .int (x4 + (1 : Int32))), (0, .ref (ad a)), (1, .int p1), (2, .int x2), (3, .int x3)]) S.1 S.2.1 dX1_ageTogether_36 hl (k := 4) rfl rfl (by decide) rfl (fun ls hl => ?_)
          refine lv_goto (tgt := 7) S.1 S.2.1 dX1_ageTogether_39 (by decide) ?_
          exact ih _ _ _ _ _ _ h _ _ _ (lv_sub hl [1, 2, 3, 4, 0] rfl) hW K
        · replace h := (if_neg c7).symm.trans h
          refine lv_iload_n S.1 S.2.1 dX1_ageTogether_23 rfl (lv_at hl 2 rfl) ?_
          refine lv_aload_n S.1 S.2.1 dX1_ageTogether_24 rfl (lv_at hl 0 rfl) ?_
          refine fl_get S hK iX1 rfl al0 as0 0 (by decide) (hq _ q_30) (fun _ h9 => h9) (fvs_R rfl ar0) hW dX1_ageTogether_25 ?_
          refine lv_iload S.1 S.2.1 dX1_ageTogether_28 (lv_at hl 4 rfl) ?_
          obtain ⟨g8, h⟩ := ix_some h
          refine fl_iald S hK al1 as1 g8 hW dX1_ageTogether_30 ?_
          refine lv_iadd S.1 S.2.1 dX1_ageTogether_31 ?_
          refine lv_istore_n (lv' := [(2, .int (x2 + (M.1 (a + 1) (x4).toNatClampNeg))), (0, .ref (ad a)), (1, .int p1), (3, .int x3), (4, .int x4)]) S.1 S.2.1 dX1_ageTogether_32 rfl hl (by decide) rfl (fun ls hl => ?_)
          refine lv_iinc (v := x3 + (1 : Int32)) (lv' := [(3, .int (x3 + (1 : Int32))), (2, .int (x2 + (M.1 (a + 1) (x4).toNatClampNeg))), (0, .ref (ad a)), (1, .int p1), (4, .int x4)]) S.1 S.2.1 dX1_ageTogether_33 hl (k := 3) rfl rfl (by decide) rfl (fun ls hl => ?_)
          refine lv_iinc (v := x4 + (1 : Int32)) (lv' := [(4, .int (x4 + (1 : Int32))), (3, .int (x3 + (1 : Int32))), (2, .int (x2 + (M.1 (a + 1) (x4).toNatClampNeg))), (0, .ref (ad a)), (1, .int p1)]) S.1 S.2.1 dX1_ageTogether_36 hl (k := 4) rfl rfl (by decide) rfl (fun ls hl => ?_)
          refine lv_goto (tgt := 7) S.1 S.2.1 dX1_ageTogether_39 (by decide) ?_
          exact ih _ _ _ _ _ _ h _ _ _ (lv_sub hl [3, 4, 2, 1, 0] rfl) hW K
  obtain ⟨w1, w2, w3, u11, h⟩ := b3_some h
  refine L7 50000 _ _ _ _ _ _ u11 _ _ _ (lv_sub hl [3, 4, 2, 1, 0] rfl) hW (fun H locs ls hl hW => ?_)
  clear L7
  refine lv_iload_n S.1 S.2.1 dX1_ageTogether_42 rfl (lv_at hl 3 rfl) ?_
  refine lv_if_ne (tgt := 50) S.1 S.2.1 dX1_ageTogether_43 (by decide) (fun c9 => ?_) (fun c9 => ?_)
  · replace h := (if_neg c9).symm.trans h
    refine lv_iload_n S.1 S.2.1 dX1_ageTogether_50 rfl (lv_at hl 2 rfl) ?_
    refine lv_iload_n S.1 S.2.1 dX1_ageTogether_51 rfl (lv_at hl 3 rfl) ?_
    obtain ⟨g10, h⟩ := nz_some h
    refine lv_idiv S.1 S.2.1 dX1_ageTogether_52 g10 ?_
    obtain rfl := s1 h
    exact fl_iret S.1 S.2.1 hr hlocks hW dX1_ageTogether_53
  · replace h := (if_pos c9).symm.trans h
    refine lv_iconst (v := (0 : Int32)) S.1 S.2.1 dX1_ageTogether_46 (by decide) ?_
    refine lv_goto (tgt := 53) S.1 S.2.1 dX1_ageTogether_47 (by decide) ?_
    obtain rfl := s1 h
    exact fl_iret S.1 S.2.1 hr hlocks hW dX1_ageTogether_53
def fX1_ageOfRoom (a : Nat) (p1 : Int32) (M : Mm) : Option (Int32) :=
  ix p1 6 (bP (fX1_ageTogether a (M.1 (a + 2) (p1).toNatClampNeg) M) (fun (v3 : Int32) => some v3))
set_option maxHeartbeats 4000000 in
set_option maxRecDepth 100000 in
theorem kX1_ageOfRoom (l : Launch) {D : va_G} {cy : Nat → ClassId} {ad : Nat → Nat} (hJ : Inj ad 80) (a : Nat) (ha : isM a = true) (p1 : Int32) (M : Mm) (r : Int32) (h : fX1_ageOfRoom a p1 M = some r) : Met l yX1_ageOfRoom vX1_ageOfRoom ({ frames := 3, cells := 0, slots := 0, locals := 65 } : Room) (PcF [.ref (ad a), .int p1] D cy ad kdV shC rfC 80 M) (QcI r D cy ad kdV shC rfC 80 M) 0 0 (AV ad 80) := by
  refine Met.ofW (cc := cX1_ageOfRoom) (maxL := 2) (ret := (some .int)) (by decide) rfl ?_
  intro p e s m args below meth c s₁ B hml hv
  obtain ⟨rfl, hP, hK, hN⟩ := hv
  have hr := B.returns
  have hlocks := B.notSynchronized
  have S : CallFix p m c cX1_ageOfRoom 2 s ([.ref (ad a), .int p1] : List Value).toArray vX1_ageOfRoom RX1 := ⟨B.exec, B.bytes, hml, findClass_of_methodNamed B.named, atoms_spec (ws := vX1_ageOfRoom) B.pre⟩
  have hq : ∀ w ∈ GW, w.before ([.ref (ad a), .int p1] : List Value).toArray s = true := fun w h => S.2.2.2.2 w (List.mem_cons_of_mem _ h)
  have hA : ∀ k, k < 80 → AV ad 80 (ad k) := fun k hk => ⟨k, hk, rfl⟩
  have hW : WSt D cy ad kdV shC rfC 80 (AV ad 80) M s.heap s.heap [] := ⟨hP, va_S.rf⟩
  clear hP
  have iX1 : ∀ w ∈ wsX10, w ∈ vX1_ageOfRoom := fun w h => List.mem_cons_of_mem _ (inX1 w h)
  obtain ⟨⟨al0, as0⟩, ⟨al1, as1⟩, ⟨al2, as2⟩, ⟨al3, as3⟩, ar0, ar1, ar2⟩ := isM_ok ha
  have hl := lv_entry ([.ref (ad a), .int p1]) (n := 2) (Nat.le_of_ble_eq_true rfl)
  rw [lg_entry_eq]
  generalize (lg_sl ([.ref (ad a), .int p1]) ++ List.replicate (2 - (lg_sl ([.ref (ad a), .int p1])).length) Slot.unset).toArray = ls at hl ⊢
  have hl : lv_has ls 2 [(0, .ref (ad a)), (1, .int p1)] := hl
  rw [fX1_ageOfRoom] at h
  refine lv_aload_n S.1 S.2.1 dX1_ageOfRoom_0 rfl (lv_at hl 0 rfl) ?_
  refine lv_aload_n S.1 S.2.1 dX1_ageOfRoom_1 rfl (lv_at hl 0 rfl) ?_
  refine fl_get S hK iX1 rfl al0 as0 1 (by decide) (hq _ q_31) (fun _ h9 => h9) (fvs_R rfl ar1) hW dX1_ageOfRoom_2 ?_
  refine lv_iload_n S.1 S.2.1 dX1_ageOfRoom_5 rfl (lv_at hl 1 rfl) ?_
  obtain ⟨g1, h⟩ := ix_some h
  refine fl_iald S hK al2 as2 g1 hW dX1_ageOfRoom_6 ?_
  obtain ⟨v3, u2, h⟩ := bP_some h
  refine fl_doneI (fl_runV S hK hN (kX1_ageTogether l hJ a ha (M.1 (a + 2) (p1).toNatClampNeg) M v3 u2) (cwV 1 S.2.2.2.2 (gV q_38 q_39 q_40 q_41 q_37) rfl rfl rfl (by decide +kernel) ⟨Nat.le_of_ble_eq_true rfl, Nat.le_of_ble_eq_true rfl⟩) (ci := 1) rfl al0 as0 rfl hl.1 rfl (Nat.le_of_ble_eq_true rfl) dX1_ageOfRoom_7 ⟨Nat.zero_le _, Nat.zero_le _⟩ hW) hA hW.2 (fun H locs hW => ?_)
  obtain rfl := s1 h
  exact fl_iret S.1 S.2.1 hr hlocks hW dX1_ageOfRoom_10
def fX1_bear (a : Nat) (p1 : Int32) (p2 : Int32) (p3 : Int32) (M : Mm) : Option (Int32 × Mm) :=
  bP (fX1_ageOfRoom a p2 M) (fun (v2 : Int32) => ix p1 6 (lt (wI M (a + 3) (p1).toNatClampNeg v2) (fun (M4 : Mm) => bP (fX6_bit p1) (fun (v7 : Int32) => lt (wI M4 a 4 ((M4.1 a 4) ||| v7)) (fun (M8 : Mm) => ix p1 6 (if p3 ≤ (M8.1 (a + 3) (p1).toNatClampNeg) then (ix p1 6 (some (M8.1 (a + 3) (p1).toNatClampNeg, M8))) else (bP (fX6_bit p1) (fun (v14 : Int32) => lt (wI M8 a 5 ((M8.1 a 5) ||| v14)) (fun (M15 : Mm) => ix p1 6 (some (M15.1 (a + 3) (p1).toNatClampNeg, M15)))))))))))
set_option maxHeartbeats 4000000 in
set_option maxRecDepth 100000 in
theorem kX1_bear (l : Launch) {D : va_G} {cy : Nat → ClassId} {ad : Nat → Nat} (hJ : Inj ad 80) (a : Nat) (ha : isM a = true) (p1 : Int32) (p2 : Int32) (p3 : Int32) (M : Mm) (r : Int32) (M' : Mm) (h : fX1_bear a p1 p2 p3 M = some (r, M')) : Met l yX1_bear vX1_bear ({ frames := 4, cells := 0, slots := 0, locals := 86 } : Room) (PcF [.ref (ad a), .int p1, .int p2, .int p3] D cy ad kdV shC rfC 80 M) (QcI r D cy ad kdV shC rfC 80 M') 0 0 (AV ad 80) := by
  refine Met.ofW (cc := cX1_bear) (maxL := 4) (ret := (some .int)) (by decide) rfl ?_
  intro p e s m args below meth c s₁ B hml hv
  obtain ⟨rfl, hP, hK, hN⟩ := hv
  have hr := B.returns
  have hlocks := B.notSynchronized
  have S : CallFix p m c cX1_bear 4 s ([.ref (ad a), .int p1, .int p2, .int p3] : List Value).toArray vX1_bear RX1 := ⟨B.exec, B.bytes, hml, findClass_of_methodNamed B.named, atoms_spec (ws := vX1_bear) B.pre⟩
  have hq : ∀ w ∈ GW, w.before ([.ref (ad a), .int p1, .int p2, .int p3] : List Value).toArray s = true := fun w h => S.2.2.2.2 w (List.mem_cons_of_mem _ h)
  have hA : ∀ k, k < 80 → AV ad 80 (ad k) := fun k hk => ⟨k, hk, rfl⟩
  have hW : WSt D cy ad kdV shC rfC 80 (AV ad 80) M s.heap s.heap [] := ⟨hP, va_S.rf⟩
  clear hP
  have iX1 : ∀ w ∈ wsX10, w ∈ vX1_bear := fun w h => List.mem_cons_of_mem _ (inX1 w h)
  obtain ⟨⟨al0, as0⟩, ⟨al1, as1⟩, ⟨al2, as2⟩, ⟨al3, as3⟩, ar0, ar1, ar2⟩ := isM_ok ha
  have hl := lv_entry ([.ref (ad a), .int p1, .int p2, .int p3]) (n := 4) (Nat.le_of_ble_eq_true rfl)
  rw [lg_entry_eq]
  generalize (lg_sl ([.ref (ad a), .int p1, .int p2, .int p3]) ++ List.replicate (4 - (lg_sl ([.ref (ad a), .int p1, .int p2, .int p3])).length) Slot.unset).toArray = ls at hl ⊢
  have hl : lv_has ls 4 [(0, .ref (ad a)), (1, .int p1), (2, .int p2), (3, .int p3)] := hl
  rw [fX1_bear] at h
  refine lv_aload_n S.1 S.2.1 dX1_bear_0 rfl (lv_at hl 0 rfl) ?_
  refine fl_get S hK iX1 rfl al0 as0 2 (by decide) (hq _ q_36) (fun _ h9 => h9) (fvs_R rfl ar2) hW dX1_bear_1 ?_
  refine lv_iload_n S.1 S.2.1 dX1_bear_4 rfl (lv_at hl 1 rfl) ?_
  refine lv_aload_n S.1 S.2.1 dX1_bear_5 rfl (lv_at hl 0 rfl) ?_
  refine lv_iload_n S.1 S.2.1 dX1_bear_6 rfl (lv_at hl 2 rfl) ?_
  obtain ⟨v2, u1, h⟩ := bP_some h
  refine fl_doneI (fl_runV S hK hN (kX1_ageOfRoom l hJ a ha p2 M v2 u1) (cwV 1 S.2.2.2.2 (gV q_43 q_44 q_45 q_41 q_42) rfl rfl rfl (by decide +kernel) ⟨Nat.le_of_ble_eq_true rfl, Nat.le_of_ble_eq_true rfl⟩) (ci := 1) rfl al0 as0 rfl hl.1 rfl (Nat.le_of_ble_eq_true rfl) dX1_bear_7 ⟨Nat.zero_le _, Nat.zero_le _⟩ hW) hA hW.2 (fun H locs hW => ?_)
  obtain ⟨g3, h⟩ := ix_some h
  refine fl_iast S hK hJ hA al3 as3 g3 hW dX1_bear_10 (fun H locs hW => ?_)
  obtain ⟨M4, e5, h⟩ := lt_some h
  rw [e5] at hW
  clear e5
  refine lv_aload_n S.1 S.2.1 dX1_bear_11 rfl (lv_at hl 0 rfl) ?_
  refine lv_dup S.1 S.2.1 dX1_bear_12 rfl ?_
  refine fl_get S hK iX1 rfl al0 as0 4 (by decide) (hq _ q_28) (fun _ h9 => h9) (fvs_I rfl) hW dX1_bear_13 ?_
  refine lv_iload_n S.1 S.2.1 dX1_bear_16 rfl (lv_at hl 1 rfl) ?_
  obtain ⟨v7, u6, h⟩ := bP_some h
  refine fl_doneP (fl_runSN S (kX6_bit l p1 v7 u6) ⟨va_cnB 1 S.2.2.2.2 (gN q_0) rfl rfl rfl (hN.m 8 rfl) (hq _ q_3) (by decide +kernel) ⟨Nat.le_of_ble_eq_true rfl, Nat.le_of_ble_eq_true rfl⟩, (hq _ q_2), trivial⟩ rfl hl.1 rfl (Nat.le_of_ble_eq_true rfl) dX1_bear_17 ⟨Nat.zero_le _, Nat.zero_le _⟩) hW (fun H locs hW => ?_)
  refine lv_ior S.1 S.2.1 dX1_bear_20 ?_
  refine fl_put S hK hJ hA tyX1 tyX1_ok nmX1 iX1 rfl al0 as0 4 (by decide) (hq _ q_28) (fun _ h9 => h9) rfl (ty := .int) rfl rfl rfl (wI M4 a 4 ((M4.1 a 4) ||| v7)) (by decide) (fvs_setI _ _ _ _ _ _ _ rfl) (fun j _ hj => cof_wI_ne hj) hW dX1_bear_21 (fun H locs hW => ?_)
  obtain ⟨M8, e9, h⟩ := lt_some h
  rw [e9] at hW
  clear e9
  refine lv_aload_n S.1 S.2.1 dX1_bear_24 rfl (lv_at hl 0 rfl) ?_
  refine fl_get S hK iX1 rfl al0 as0 2 (by decide) (hq _ q_36) (fun _ h9 => h9) (fvs_R rfl ar2) hW dX1_bear_25 ?_
  refine lv_iload_n S.1 S.2.1 dX1_bear_28 rfl (lv_at hl 1 rfl) ?_
  obtain ⟨g10, h⟩ := ix_some h
  refine fl_iald S hK al3 as3 g10 hW dX1_bear_29 ?_
  refine lv_iload_n S.1 S.2.1 dX1_bear_30 rfl (lv_at hl 3 rfl) ?_
  refine lv_icmp_ge (tgt := 47) S.1 S.2.1 dX1_bear_31 (by decide) (fun c11 => ?_) (fun c11 => ?_)
  · replace h := (if_pos c11).symm.trans h
    refine lv_aload_n S.1 S.2.1 dX1_bear_47 rfl (lv_at hl 0 rfl) ?_
    refine fl_get S hK iX1 rfl al0 as0 2 (by decide) (hq _ q_36) (fun _ h9 => h9) (fvs_R rfl ar2) hW dX1_bear_48 ?_
    refine lv_iload_n S.1 S.2.1 dX1_bear_51 rfl (lv_at hl 1 rfl) ?_
    obtain ⟨g12, h⟩ := ix_some h
    refine fl_iald S hK al3 as3 g12 hW dX1_bear_52 ?_
    obtain ⟨rfl, rfl⟩ := s2 h
    exact fl_iret S.1 S.2.1 hr hlocks hW dX1_bear_53
  · replace h := (if_neg c11).symm.trans h
    refine lv_aload_n S.1 S.2.1 dX1_bear_34 rfl (lv_at hl 0 rfl) ?_
    refine lv_dup S.1 S.2.1 dX1_bear_35 rfl ?_
    refine fl_get S hK iX1 rfl al0 as0 5 (by decide) (hq _ q_29) (fun _ h9 => h9) (fvs_I rfl) hW dX1_bear_36 ?_
    refine lv_iload_n S.1 S.2.1 dX1_bear_39 rfl (lv_at hl 1 rfl) ?_
    obtain ⟨v14, u13, h⟩ := bP_some h
    refine fl_doneP (fl_runSN S (kX6_bit l p1 v14 u13) ⟨va_cnB 1 S.2.2.2.2 (gN q_0) rfl rfl rfl (hN.m 8 rfl) (hq _ q_3) (by decide +kernel) ⟨Nat.le_of_ble_eq_true rfl, Nat.le_of_ble_eq_true rfl⟩, (hq _ q_2), trivial⟩ rfl hl.1 rfl (Nat.le_of_ble_eq_true rfl) dX1_bear_40 ⟨Nat.zero_le _, Nat.zero_le _⟩) hW (fun H locs hW => ?_)
    refine lv_ior S.1 S.2.1 dX1_bear_43 ?_
    refine fl_put S hK hJ hA tyX1 tyX1_ok nmX1 iX1 rfl al0 as0 5 (by decide) (hq _ q_29) (fun _ h9 => h9) rfl (ty := .int) rfl rfl rfl (wI M8 a 5 ((M8.1 a 5) ||| v14)) (by decide) (fvs_setI _ _ _ _ _ _ _ rfl) (fun j _ hj => cof_wI_ne hj) hW dX1_bear_44 (fun H locs hW => ?_)
    obtain ⟨M15, e16, h⟩ := lt_some h
    rw [e16] at hW
    clear e16
    refine lv_aload_n S.1 S.2.1 dX1_bear_47 rfl (lv_at hl 0 rfl) ?_
    refine fl_get S hK iX1 rfl al0 as0 2 (by decide) (hq _ q_36) (fun _ h9 => h9) (fvs_R rfl ar2) hW dX1_bear_48 ?_
    refine lv_iload_n S.1 S.2.1 dX1_bear_51 rfl (lv_at hl 1 rfl) ?_
    obtain ⟨g17, h⟩ := ix_some h
    refine fl_iald S hK al3 as3 g17 hW dX1_bear_52 ?_
    obtain ⟨rfl, rfl⟩ := s2 h
    exact fl_iret S.1 S.2.1 hr hlocks hW dX1_bear_53
def fX1_passYear_L12 (a : Nat) (b : Nat) : Nat → Int32 → Mm → Option (Int32 × Mm)
  | 0, _, _ => none
  | n + 1, x2, Ml => if (Ml.1 b 4) ≤ x2 then (some (x2, Ml)) else (ix x2 6 (ix x2 6 (lt (wI Ml (a + 1) (x2).toNatClampNeg ((Ml.1 (a + 1) (x2).toNatClampNeg) + (1 : Int32))) (fun (M8 : Mm) => fX1_passYear_L12 a b n (x2 + (1 : Int32)) M8))))
def fX1_passYear_L40 (a : Nat) (b : Nat) : Nat → Int32 → Int32 → Mm → Option (Int32 × Int32 × Mm)
  | 0, _, _, _ => none
  | n + 1, x2, x3, Ml => if (Ml.1 b 5) ≤ x3 then (some (x2, x3, Ml)) else (bP (fX6_has (Ml.1 a 5) x3) (fun (v15 : Int32) => if v15 = 0 then (fX1_passYear_L40 a b n x2 (x3 + (1 : Int32)) Ml) else (ix x3 6 (ix x3 6 (lt (wI Ml (a + 3) (x3).toNatClampNeg ((Ml.1 (a + 3) (x3).toNatClampNeg) + (1 : Int32))) (fun (M19 : Mm) => ix x3 6 (if (M19.1 (a + 3) (x3).toNatClampNeg) < (M19.1 b 7) then (fX1_passYear_L40 a b n x2 (x3 + (1 : Int32)) M19) else (bP (fX6_bit x3) (fun (v24 : Int32) => lt (wI M19 a 5 ((M19.1 a 5) &&& (v24 ^^^ (-1 : Int32)))) (fun (M25 : Mm) => fX1_passYear_L40 a b n (x2 + (1 : Int32)) (x3 + (1 : Int32)) M25))))))))))
def fX1_passYear (a : Nat) (b : Nat) (M : Mm) : Option (Int32 × Mm) :=
  lt (wI M a 3 ((M.1 a 3) + (1 : Int32))) (fun (M1 : Mm) => b2 (fX1_passYear_L12 a b 50000 (0 : Int32) M1) (fun (w3 : Int32) (M4 : Mm) => b3 (fX1_passYear_L40 a b 50000 (0 : Int32) (0 : Int32) M4) (fun (w10 : Int32) (w11 : Int32) (M12 : Mm) => some (w10, M12))))
set_option maxHeartbeats 4000000 in
set_option maxRecDepth 100000 in
theorem kX1_passYear (l : Launch) {D : va_G} {cy : Nat → ClassId} {ad : Nat → Nat} (hJ : Inj ad 80) (a : Nat) (ha : isM a = true) (b : Nat) (hb : isT b = true)  (M : Mm) (r : Int32) (M' : Mm) (h : fX1_passYear a b M = some (r, M')) : Met l yX1_passYear vX1_passYear ({ frames := 2, cells := 0, slots := 0, locals := 41 } : Room) (PcF [.ref (ad a), .ref (ad b)] D cy ad kdV shC rfC 80 M) (QcI r D cy ad kdV shC rfC 80 M') 0 0 (AV ad 80) := by
  refine Met.ofW (cc := cX1_passYear) (maxL := 4) (ret := (some .int)) (by decide) rfl ?_
  intro p e s m args below meth c s₁ B hml hv
  obtain ⟨rfl, hP, hK, hN⟩ := hv
  have hr := B.returns
  have hlocks := B.notSynchronized
  have S : CallFix p m c cX1_passYear 4 s ([.ref (ad a), .ref (ad b)] : List Value).toArray vX1_passYear RX1 := ⟨B.exec, B.bytes, hml, findClass_of_methodNamed B.named, atoms_spec (ws := vX1_passYear) B.pre⟩
  have hq : ∀ w ∈ GW, w.before ([.ref (ad a), .ref (ad b)] : List Value).toArray s = true := fun w h => S.2.2.2.2 w (List.mem_cons_of_mem _ h)
  have hA : ∀ k, k < 80 → AV ad 80 (ad k) := fun k hk => ⟨k, hk, rfl⟩
  have hW : WSt D cy ad kdV shC rfC 80 (AV ad 80) M s.heap s.heap [] := ⟨hP, va_S.rf⟩
  clear hP
  have iX1 : ∀ w ∈ wsX10, w ∈ vX1_passYear := fun w h => List.mem_cons_of_mem _ (inX1 w h)
  have iX5 : ∀ w ∈ wsX50, w ∈ vX1_passYear := fun w h => List.mem_cons_of_mem _ (inX5 w h)
  obtain ⟨⟨al0, as0⟩, ⟨al1, as1⟩, ⟨al2, as2⟩, ⟨al3, as3⟩, ar0, ar1, ar2⟩ := isM_ok ha
  obtain ⟨⟨bl0, bs0⟩, ⟨bl1, bs1⟩, ⟨bl2, bs2⟩, ⟨bl3, bs3⟩, br0, br1, br2⟩ := isT_ok hb
  have hl := lv_entry ([.ref (ad a), .ref (ad b)]) (n := 4) (Nat.le_of_ble_eq_true rfl)
  rw [lg_entry_eq]
  generalize (lg_sl ([.ref (ad a), .ref (ad b)]) ++ List.replicate (4 - (lg_sl ([.ref (ad a), .ref (ad b)])).length) Slot.unset).toArray = ls at hl ⊢
  have hl : lv_has ls 4 [(0, .ref (ad a)), (1, .ref (ad b))] := hl
  rw [fX1_passYear] at h
  refine lv_aload_n S.1 S.2.1 dX1_passYear_0 rfl (lv_at hl 0 rfl) ?_
  refine lv_dup S.1 S.2.1 dX1_passYear_1 rfl ?_
  refine fl_get S hK iX1 rfl al0 as0 3 (by decide) (hq _ q_27) (fun _ h9 => h9) (fvs_I rfl) hW dX1_passYear_2 ?_
  refine lv_iconst (v := (1 : Int32)) S.1 S.2.1 dX1_passYear_5 (by decide) ?_
  refine lv_iadd S.1 S.2.1 dX1_passYear_6 ?_
  refine fl_put S hK hJ hA tyX1 tyX1_ok nmX1 iX1 rfl al0 as0 3 (by decide) (hq _ q_27) (fun _ h9 => h9) rfl (ty := .int) rfl rfl rfl (wI M a 3 ((M.1 a 3) + (1 : Int32))) (by decide) (fvs_setI _ _ _ _ _ _ _ rfl) (fun j _ hj => cof_wI_ne hj) hW dX1_passYear_7 (fun H locs hW => ?_)
  obtain ⟨M1, e2, h⟩ := lt_some h
  rw [e2] at hW
  clear e2
  refine lv_iconst (v := (0 : Int32)) S.1 S.2.1 dX1_passYear_10 (by decide) ?_
  refine lv_istore_n (lv' := [(2, .int (0 : Int32)), (0, .ref (ad a)), (1, .ref (ad b))]) S.1 S.2.1 dX1_passYear_11 rfl hl (by decide) rfl (fun ls hl => ?_)
  have L12 : ∀ (n : Nat) (x2 : Int32) (Ml : Mm) (w3 : Int32) (M4 : Mm), fX1_passYear_L12 a b n x2 Ml = some (w3, M4) → ∀ (H : Heap) (locs : List Loc) (ls : Array Slot), lv_has ls 4 [(0, .ref (ad a)), (1, .ref (ad b)), (2, .int x2)] → WSt D cy ad kdV shC rfC 80 (AV ad 80) Ml s.heap H locs → (∀ (H : Heap) (locs : List Loc) (ls : Array Slot), lv_has ls 4 [(0, .ref (ad a)), (1, .ref (ad b)), (2, .int w3)] → WSt D cy ad kdV shC rfC 80 (AV ad 80) M4 s.heap H locs → W p l e (headSpec vX1_passYear ({ frames := 2, cells := 0, slots := 0, locals := 41 } : Room)).room s m ([.ref (ad a), .ref (ad b)] : List Value).toArray below meth c H locs 0 0 (MQ below (QcI r D cy ad kdV shC rfC 80 M') ([.ref (ad a), .ref (ad b)] : List Value).toArray s 0 0 (AV ad 80)) (F0 m 36 ls [])) → W p l e (headSpec vX1_passYear ({ frames := 2, cells := 0, slots := 0, locals := 41 } : Room)).room s m ([.ref (ad a), .ref (ad b)] : List Value).toArray below meth c H locs 0 0 (MQ below (QcI r D cy ad kdV shC rfC 80 M') ([.ref (ad a), .ref (ad b)] : List Value).toArray s 0 0 (AV ad 80)) (F0 m 12 ls []) := by
    intro n
    induction n with
    | zero => intro x2 Ml w3 M4 h; cases h
    | succ n ih =>
      intro x2 Ml w3 M4 h H locs ls hl hW K
      rw [fX1_passYear_L12] at h
      refine lv_iload_n S.1 S.2.1 dX1_passYear_12 rfl (lv_at hl 2 rfl) ?_
      refine lv_aload_n S.1 S.2.1 dX1_passYear_13 rfl (lv_at hl 1 rfl) ?_
      refine fl_getN S hK iX5 rfl bl0 bs0 4 (by decide) (hN.f 22 rfl) (fun _ h9 => h9) (fvs_I rfl) hW dX1_passYear_14 ?_
      refine lv_icmp_ge (tgt := 36) S.1 S.2.1 dX1_passYear_17 (by decide) (fun c5 => ?_) (fun c5 => ?_)
      · replace h := (if_pos c5).symm.trans h
        obtain ⟨rfl, rfl⟩ := s2 h
        exact K _ _ _ hl hW
      · replace h := (if_neg c5).symm.trans h
        refine lv_aload_n S.1 S.2.1 dX1_passYear_20 rfl (lv_at hl 0 rfl) ?_
        refine fl_get S hK iX1 rfl al0 as0 0 (by decide) (hq _ q_30) (fun _ h9 => h9) (fvs_R rfl ar0) hW dX1_passYear_21 ?_
        refine lv_iload_n S.1 S.2.1 dX1_passYear_24 rfl (lv_at hl 2 rfl) ?_
        refine lv_dup2_11 S.1 S.2.1 dX1_passYear_25 rfl rfl ?_
        obtain ⟨g6, h⟩ := ix_some h
        refine fl_iald S hK al1 as1 g6 hW dX1_passYear_26 ?_
        refine lv_iconst (v := (1 : Int32)) S.1 S.2.1 dX1_passYear_27 (by decide) ?_
        refine lv_iadd S.1 S.2.1 dX1_passYear_28 ?_
        obtain ⟨g7, h⟩ := ix_some h
        refine fl_iast S hK hJ hA al1 as1 g7 hW dX1_passYear_29 (fun H locs hW => ?_)
        obtain ⟨M8, e9, h⟩ := lt_some h
        rw [e9] at hW
        clear e9
        refine lv_iinc (v := x2 + (1 : Int32)) (lv' := [(2, .int (x2 + (1 : Int32))), (0, .ref (ad a)), (1, .ref (ad b))]) S.1 S.2.1 dX1_passYear_30 hl (k := 2) rfl rfl (by decide) rfl (fun ls hl => ?_)
        refine lv_goto (tgt := 12) S.1 S.2.1 dX1_passYear_33 (by decide) ?_
        exact ih _ _ _ _ h _ _ _ (lv_sub hl [1, 2, 0] rfl) hW K
  obtain ⟨w3, M4, u28, h⟩ := b2_some h
  refine L12 50000 _ _ _ _ u28 _ _ _ (lv_sub hl [1, 2, 0] rfl) hW (fun H locs ls hl hW => ?_)
  clear L12
  refine lv_iconst (v := (0 : Int32)) S.1 S.2.1 dX1_passYear_36 (by decide) ?_
  refine lv_istore_n (lv' := [(2, .int (0 : Int32)), (0, .ref (ad a)), (1, .ref (ad b))]) S.1 S.2.1 dX1_passYear_37 rfl hl (by decide) rfl (fun ls hl => ?_)
  refine lv_iconst (v := (0 : Int32)) S.1 S.2.1 dX1_passYear_38 (by decide) ?_
  refine lv_istore_n (lv' := [(3, .int (0 : Int32)), (2, .int (0 : Int32)), (0, .ref (ad a)), (1, .ref (ad b))]) S.1 S.2.1 dX1_passYear_39 rfl hl (by decide) rfl (fun ls hl => ?_)
  have L40 : ∀ (n : Nat) (x2 : Int32) (x3 : Int32) (Ml : Mm) (w10 : Int32) (w11 : Int32) (M12 : Mm), fX1_passYear_L40 a b n x2 x3 Ml = some (w10, w11, M12) → ∀ (H : Heap) (locs : List Loc) (ls : Array Slot), lv_has ls 4 [(0, .ref (ad a)), (1, .ref (ad b)), (2, .int x2), (3, .int x3)] → WSt D cy ad kdV shC rfC 80 (AV ad 80) Ml s.heap H locs → (∀ (H : Heap) (locs : List Loc) (ls : Array Slot), lv_has ls 4 [(0, .ref (ad a)), (1, .ref (ad b)), (2, .int w10), (3, .int w11)] → WSt D cy ad kdV shC rfC 80 (AV ad 80) M12 s.heap H locs → W p l e (headSpec vX1_passYear ({ frames := 2, cells := 0, slots := 0, locals := 41 } : Room)).room s m ([.ref (ad a), .ref (ad b)] : List Value).toArray below meth c H locs 0 0 (MQ below (QcI r D cy ad kdV shC rfC 80 M') ([.ref (ad a), .ref (ad b)] : List Value).toArray s 0 0 (AV ad 80)) (F0 m 106 ls [])) → W p l e (headSpec vX1_passYear ({ frames := 2, cells := 0, slots := 0, locals := 41 } : Room)).room s m ([.ref (ad a), .ref (ad b)] : List Value).toArray below meth c H locs 0 0 (MQ below (QcI r D cy ad kdV shC rfC 80 M') ([.ref (ad a), .ref (ad b)] : List Value).toArray s 0 0 (AV ad 80)) (F0 m 40 ls []) := by
    intro n
    induction n with
    | zero => intro x2 x3 Ml w10 w11 M12 h; cases h
    | succ n ih =>
      intro x2 x3 Ml w10 w11 M12 h H locs ls hl hW K
      rw [fX1_passYear_L40] at h
      refine lv_iload_n S.1 S.2.1 dX1_passYear_40 rfl (lv_at hl 3 rfl) ?_
      refine lv_aload_n S.1 S.2.1 dX1_passYear_41 rfl (lv_at hl 1 rfl) ?_
      refine fl_getN S hK iX5 rfl bl0 bs0 5 (by decide) (hN.f 25 rfl) (fun _ h9 => h9) (fvs_I rfl) hW dX1_passYear_42 ?_
      refine lv_icmp_ge (tgt := 106) S.1 S.2.1 dX1_passYear_45 (by decide) (fun c13 => ?_) (fun c13 => ?_)
      · replace h := (if_pos c13).symm.trans h
        obtain ⟨rfl, rfl, rfl⟩ := s3 h
        exact K _ _ _ hl hW
      · replace h := (if_neg c13).symm.trans h
        refine lv_aload_n S.1 S.2.1 dX1_passYear_48 rfl (lv_at hl 0 rfl) ?_
        refine fl_get S hK iX1 rfl al0 as0 5 (by decide) (hq _ q_29) (fun _ h9 => h9) (fvs_I rfl) hW dX1_passYear_49 ?_
        refine lv_iload_n S.1 S.2.1 dX1_passYear_52 rfl (lv_at hl 3 rfl) ?_
        obtain ⟨v15, u14, h⟩ := bP_some h
        refine fl_doneP (fl_runSN S (kX6_has l (Ml.1 a 5) x3 v15 u14) ⟨va_cnB 2 S.2.2.2.2 (gN q_5) rfl rfl rfl (hN.m 13 rfl) (hq _ q_3) (by decide +kernel) ⟨Nat.le_of_ble_eq_true rfl, Nat.le_of_ble_eq_true rfl⟩, (hq _ q_6), trivial⟩ rfl hl.1 rfl (Nat.le_of_ble_eq_true rfl) dX1_passYear_53 ⟨Nat.zero_le _, Nat.zero_le _⟩) hW (fun H locs hW => ?_)
        refine lv_if_eq (tgt := 100) S.1 S.2.1 dX1_passYear_56 (by decide) (fun c16 => ?_) (fun c16 => ?_)
        · replace h := (if_pos c16).symm.trans h
          refine lv_iinc (v := x3 + (1 : Int32)) (lv' := [(3, .int (x3 + (1 : Int32))), (0, .ref (ad a)), (1, .ref (ad b)), (2, .int x2)]) S.1 S.2.1 dX1_passYear_100 hl (k := 3) rfl rfl (by decide) rfl (fun ls hl => ?_)
          refine lv_goto (tgt := 40) S.1 S.2.1 dX1_passYear_103 (by decide) ?_
          exact ih _ _ _ _ _ _ h _ _ _ (lv_sub hl [1, 2, 3, 0] rfl) hW K
        · replace h := (if_neg c16).symm.trans h
          refine lv_aload_n S.1 S.2.1 dX1_passYear_59 rfl (lv_at hl 0 rfl) ?_
          refine fl_get S hK iX1 rfl al0 as0 2 (by decide) (hq _ q_36) (fun _ h9 => h9) (fvs_R rfl ar2) hW dX1_passYear_60 ?_
          refine lv_iload_n S.1 S.2.1 dX1_passYear_63 rfl (lv_at hl 3 rfl) ?_
          refine lv_dup2_11 S.1 S.2.1 dX1_passYear_64 rfl rfl ?_
          obtain ⟨g17, h⟩ := ix_some h
          refine fl_iald S hK al3 as3 g17 hW dX1_passYear_65 ?_
          refine lv_iconst (v := (1 : Int32)) S.1 S.2.1 dX1_passYear_66 (by decide) ?_
          refine lv_iadd S.1 S.2.1 dX1_passYear_67 ?_
          obtain ⟨g18, h⟩ := ix_some h
          refine fl_iast S hK hJ hA al3 as3 g18 hW dX1_passYear_68 (fun H locs hW => ?_)
          obtain ⟨M19, e20, h⟩ := lt_some h
          rw [e20] at hW
          clear e20
          refine lv_aload_n S.1 S.2.1 dX1_passYear_69 rfl (lv_at hl 0 rfl) ?_
          refine fl_get S hK iX1 rfl al0 as0 2 (by decide) (hq _ q_36) (fun _ h9 => h9) (fvs_R rfl ar2) hW dX1_passYear_70 ?_
          refine lv_iload_n S.1 S.2.1 dX1_passYear_73 rfl (lv_at hl 3 rfl) ?_
          obtain ⟨g21, h⟩ := ix_some h
          refine fl_iald S hK al3 as3 g21 hW dX1_passYear_74 ?_
          refine lv_aload_n S.1 S.2.1 dX1_passYear_75 rfl (lv_at hl 1 rfl) ?_
          refine fl_getN S hK iX5 rfl bl0 bs0 7 (by decide) (hN.f 29 rfl) (fun _ h9 => h9) (fvs_I rfl) hW dX1_passYear_76 ?_
          refine lv_icmp_lt (tgt := 100) S.1 S.2.1 dX1_passYear_79 (by decide) (fun c22 => ?_) (fun c22 => ?_)
          · replace h := (if_pos c22).symm.trans h
            refine lv_iinc (v := x3 + (1 : Int32)) (lv' := [(3, .int (x3 + (1 : Int32))), (0, .ref (ad a)), (1, .ref (ad b)), (2, .int x2)]) S.1 S.2.1 dX1_passYear_100 hl (k := 3) rfl rfl (by decide) rfl (fun ls hl => ?_)
            refine lv_goto (tgt := 40) S.1 S.2.1 dX1_passYear_103 (by decide) ?_
            exact ih _ _ _ _ _ _ h _ _ _ (lv_sub hl [1, 2, 3, 0] rfl) hW K
          · replace h := (if_neg c22).symm.trans h
            refine lv_aload_n S.1 S.2.1 dX1_passYear_82 rfl (lv_at hl 0 rfl) ?_
            refine lv_dup S.1 S.2.1 dX1_passYear_83 rfl ?_
            refine fl_get S hK iX1 rfl al0 as0 5 (by decide) (hq _ q_29) (fun _ h9 => h9) (fvs_I rfl) hW dX1_passYear_84 ?_
            refine lv_iload_n S.1 S.2.1 dX1_passYear_87 rfl (lv_at hl 3 rfl) ?_
            obtain ⟨v24, u23, h⟩ := bP_some h
            refine fl_doneP (fl_runSN S (kX6_bit l x3 v24 u23) ⟨va_cnB 1 S.2.2.2.2 (gN q_0) rfl rfl rfl (hN.m 8 rfl) (hq _ q_3) (by decide +kernel) ⟨Nat.le_of_ble_eq_true rfl, Nat.le_of_ble_eq_true rfl⟩, (hq _ q_2), trivial⟩ rfl hl.1 rfl (Nat.le_of_ble_eq_true rfl) dX1_passYear_88 ⟨Nat.zero_le _, Nat.zero_le _⟩) hW (fun H locs hW => ?_)
            refine lv_iconst (v := (-1 : Int32)) S.1 S.2.1 dX1_passYear_91 (by decide) ?_
            refine lv_ixor S.1 S.2.1 dX1_passYear_92 ?_
            refine lv_iand S.1 S.2.1 dX1_passYear_93 ?_
            refine fl_put S hK hJ hA tyX1 tyX1_ok nmX1 iX1 rfl al0 as0 5 (by decide) (hq _ q_29) (fun _ h9 => h9) rfl (ty := .int) rfl rfl rfl (wI M19 a 5 ((M19.1 a 5) &&& (v24 ^^^ (-1 : Int32)))) (by decide) (fvs_setI _ _ _ _ _ _ _ rfl) (fun j _ hj => cof_wI_ne hj) hW dX1_passYear_94 (fun H locs hW => ?_)
            obtain ⟨M25, e26, h⟩ := lt_some h
            rw [e26] at hW
            clear e26
            refine lv_iinc (v := x2 + (1 : Int32)) (lv' := [(2, .int (x2 + (1 : Int32))), (0, .ref (ad a)), (1, .ref (ad b)), (3, .int x3)]) S.1 S.2.1 dX1_passYear_97 hl (k := 2) rfl rfl (by decide) rfl (fun ls hl => ?_)
            refine lv_iinc (v := x3 + (1 : Int32)) (lv' := [(3, .int (x3 + (1 : Int32))), (2, .int (x2 + (1 : Int32))), (0, .ref (ad a)), (1, .ref (ad b))]) S.1 S.2.1 dX1_passYear_100 hl (k := 3) rfl rfl (by decide) rfl (fun ls hl => ?_)
            refine lv_goto (tgt := 40) S.1 S.2.1 dX1_passYear_103 (by decide) ?_
            exact ih _ _ _ _ _ _ h _ _ _ (lv_sub hl [2, 3, 1, 0] rfl) hW K
  obtain ⟨w10, w11, M12, u27, h⟩ := b3_some h
  refine L40 50000 _ _ _ _ _ _ u27 _ _ _ (lv_sub hl [2, 3, 1, 0] rfl) hW (fun H locs ls hl hW => ?_)
  clear L40
  refine lv_iload_n S.1 S.2.1 dX1_passYear_106 rfl (lv_at hl 2 rfl) ?_
  obtain ⟨rfl, rfl⟩ := s2 h
  exact fl_iret S.1 S.2.1 hr hlocks hW dX1_passYear_107
def fX1_knockThrough_L17 (a : Nat) (p1 : Int32) (p2 : Int32) (M : Mm) : Nat → Int32 → Mm → Option (Int32 × Mm)
  | 0, _, _ => none
  | n + 1, x4, Ml => if (6 : Int32) ≤ x4 then (some (x4, Ml)) else (bP (fX6_has ((M.1 (a + 2) (p1).toNatClampNeg) ||| (M.1 (a + 2) (p2).toNatClampNeg)) x4) (fun (v7 : Int32) => if v7 = 0 then (fX1_knockThrough_L17 a p1 p2 M n (x4 + (1 : Int32)) Ml) else (ix x4 6 (lt (wI Ml (a + 2) (x4).toNatClampNeg ((M.1 (a + 2) (p1).toNatClampNeg) ||| (M.1 (a + 2) (p2).toNatClampNeg))) (fun (M10 : Mm) => fX1_knockThrough_L17 a p1 p2 M n (x4 + (1 : Int32)) M10)))))
def fX1_knockThrough (a : Nat) (p1 : Int32) (p2 : Int32) (M : Mm) : Option (Mm) :=
  ix p1 6 (ix p2 6 (b2 (fX1_knockThrough_L17 a p1 p2 M 50000 (0 : Int32) M) (fun (w3 : Int32) (M4 : Mm) => some M4)))
set_option maxHeartbeats 4000000 in
set_option maxRecDepth 100000 in
theorem kX1_knockThrough (l : Launch) {D : va_G} {cy : Nat → ClassId} {ad : Nat → Nat} (hJ : Inj ad 80) (a : Nat) (ha : isM a = true) (p1 : Int32) (p2 : Int32) (M : Mm) (M' : Mm) (h : fX1_knockThrough a p1 p2 M = some M') : Met l yX1_knockThrough vX1_knockThrough ({ frames := 2, cells := 0, slots := 0, locals := 41 } : Room) (PcF [.ref (ad a), .int p1, .int p2] D cy ad kdV shC rfC 80 M) (QcV D cy ad kdV shC rfC 80 M') 0 0 (AV ad 80) := by
  refine Met.ofW (cc := cX1_knockThrough) (maxL := 5) (ret := none) (by decide) rfl ?_
  intro p e s m args below meth c s₁ B hml hv
  obtain ⟨rfl, hP, hK, hN⟩ := hv
  have hr := B.returns
  have hlocks := B.notSynchronized
  have S : CallFix p m c cX1_knockThrough 5 s ([.ref (ad a), .int p1, .int p2] : List Value).toArray vX1_knockThrough RX1 := ⟨B.exec, B.bytes, hml, findClass_of_methodNamed B.named, atoms_spec (ws := vX1_knockThrough) B.pre⟩
  have hq : ∀ w ∈ GW, w.before ([.ref (ad a), .int p1, .int p2] : List Value).toArray s = true := fun w h => S.2.2.2.2 w (List.mem_cons_of_mem _ h)
  have hA : ∀ k, k < 80 → AV ad 80 (ad k) := fun k hk => ⟨k, hk, rfl⟩
  have hW : WSt D cy ad kdV shC rfC 80 (AV ad 80) M s.heap s.heap [] := ⟨hP, va_S.rf⟩
  clear hP
  have iX1 : ∀ w ∈ wsX10, w ∈ vX1_knockThrough := fun w h => List.mem_cons_of_mem _ (inX1 w h)
  obtain ⟨⟨al0, as0⟩, ⟨al1, as1⟩, ⟨al2, as2⟩, ⟨al3, as3⟩, ar0, ar1, ar2⟩ := isM_ok ha
  have hl := lv_entry ([.ref (ad a), .int p1, .int p2]) (n := 5) (Nat.le_of_ble_eq_true rfl)
  rw [lg_entry_eq]
  generalize (lg_sl ([.ref (ad a), .int p1, .int p2]) ++ List.replicate (5 - (lg_sl ([.ref (ad a), .int p1, .int p2])).length) Slot.unset).toArray = ls at hl ⊢
  have hl : lv_has ls 5 [(0, .ref (ad a)), (1, .int p1), (2, .int p2)] := hl
  rw [fX1_knockThrough] at h
  refine lv_aload_n S.1 S.2.1 dX1_knockThrough_0 rfl (lv_at hl 0 rfl) ?_
  refine fl_get S hK iX1 rfl al0 as0 1 (by decide) (hq _ q_31) (fun _ h9 => h9) (fvs_R rfl ar1) hW dX1_knockThrough_1 ?_
  refine lv_iload_n S.1 S.2.1 dX1_knockThrough_4 rfl (lv_at hl 1 rfl) ?_
  obtain ⟨g1, h⟩ := ix_some h
  refine fl_iald S hK al2 as2 g1 hW dX1_knockThrough_5 ?_
  refine lv_aload_n S.1 S.2.1 dX1_knockThrough_6 rfl (lv_at hl 0 rfl) ?_
  refine fl_get S hK iX1 rfl al0 as0 1 (by decide) (hq _ q_31) (fun _ h9 => h9) (fvs_R rfl ar1) hW dX1_knockThrough_7 ?_
  refine lv_iload_n S.1 S.2.1 dX1_knockThrough_10 rfl (lv_at hl 2 rfl) ?_
  obtain ⟨g2, h⟩ := ix_some h
  refine fl_iald S hK al2 as2 g2 hW dX1_knockThrough_11 ?_
  refine lv_ior S.1 S.2.1 dX1_knockThrough_12 ?_
  refine lv_istore_n (lv' := [(3, .int ((M.1 (a + 2) (p1).toNatClampNeg) ||| (M.1 (a + 2) (p2).toNatClampNeg))), (0, .ref (ad a)), (1, .int p1), (2, .int p2)]) S.1 S.2.1 dX1_knockThrough_13 rfl hl (by decide) rfl (fun ls hl => ?_)
  refine lv_iconst (v := (0 : Int32)) S.1 S.2.1 dX1_knockThrough_14 (by decide) ?_
  refine lv_istore (lv' := [(4, .int (0 : Int32)), (3, .int ((M.1 (a + 2) (p1).toNatClampNeg) ||| (M.1 (a + 2) (p2).toNatClampNeg))), (0, .ref (ad a)), (1, .int p1), (2, .int p2)]) S.1 S.2.1 dX1_knockThrough_15 hl (by decide) rfl (fun ls hl => ?_)
  have L17 : ∀ (n : Nat) (x4 : Int32) (Ml : Mm) (w3 : Int32) (M4 : Mm), fX1_knockThrough_L17 a p1 p2 M n x4 Ml = some (w3, M4) → ∀ (H : Heap) (locs : List Loc) (ls : Array Slot), lv_has ls 5 [(0, .ref (ad a)), (1, .int p1), (2, .int p2), (3, .int ((M.1 (a + 2) (p1).toNatClampNeg) ||| (M.1 (a + 2) (p2).toNatClampNeg))), (4, .int x4)] → WSt D cy ad kdV shC rfC 80 (AV ad 80) Ml s.heap H locs → (∀ (H : Heap) (locs : List Loc) (ls : Array Slot), lv_has ls 5 [(0, .ref (ad a)), (1, .int p1), (2, .int p2), (3, .int ((M.1 (a + 2) (p1).toNatClampNeg) ||| (M.1 (a + 2) (p2).toNatClampNeg))), (4, .int w3)] → WSt D cy ad kdV shC rfC 80 (AV ad 80) M4 s.heap H locs → W p l e (headSpec vX1_knockThrough ({ frames := 2, cells := 0, slots := 0, locals := 41 } : Room)).room s m ([.ref (ad a), .int p1, .int p2] : List Value).toArray below meth c H locs 0 0 (MQ below (QcV D cy ad kdV shC rfC 80 M') ([.ref (ad a), .int p1, .int p2] : List Value).toArray s 0 0 (AV ad 80)) (F0 m 47 ls [])) → W p l e (headSpec vX1_knockThrough ({ frames := 2, cells := 0, slots := 0, locals := 41 } : Room)).room s m ([.ref (ad a), .int p1, .int p2] : List Value).toArray below meth c H locs 0 0 (MQ below (QcV D cy ad kdV shC rfC 80 M') ([.ref (ad a), .int p1, .int p2] : List Value).toArray s 0 0 (AV ad 80)) (F0 m 17 ls []) := by
    intro n
    induction n with
    | zero => intro x4 Ml w3 M4 h; cases h
    | succ n ih =>
      intro x4 Ml w3 M4 h H locs ls hl hW K
      rw [fX1_knockThrough_L17] at h
      refine lv_iload S.1 S.2.1 dX1_knockThrough_17 (lv_at hl 4 rfl) ?_
      refine lv_bipush (v := (6 : Int32)) S.1 S.2.1 dX1_knockThrough_19 (by decide) ?_
      refine lv_icmp_ge (tgt := 47) S.1 S.2.1 dX1_knockThrough_21 (by decide) (fun c5 => ?_) (fun c5 => ?_)
      · replace h := (if_pos c5).symm.trans h
        obtain ⟨rfl, rfl⟩ := s2 h
        exact K _ _ _ hl hW
      · replace h := (if_neg c5).symm.trans h
        refine lv_iload_n S.1 S.2.1 dX1_knockThrough_24 rfl (lv_at hl 3 rfl) ?_
        refine lv_iload S.1 S.2.1 dX1_knockThrough_25 (lv_at hl 4 rfl) ?_
        obtain ⟨v7, u6, h⟩ := bP_some h
        refine fl_doneP (fl_runSN S (kX6_has l ((M.1 (a + 2) (p1).toNatClampNeg) ||| (M.1 (a + 2) (p2).toNatClampNeg)) x4 v7 u6) ⟨va_cnB 2 S.2.2.2.2 (gN q_5) rfl rfl rfl (hN.m 13 rfl) (hq _ q_3) (by decide +kernel) ⟨Nat.le_of_ble_eq_true rfl, Nat.le_of_ble_eq_true rfl⟩, (hq _ q_6), trivial⟩ rfl hl.1 rfl (Nat.le_of_ble_eq_true rfl) dX1_knockThrough_27 ⟨Nat.zero_le _, Nat.zero_le _⟩) hW (fun H locs hW => ?_)
        refine lv_if_eq (tgt := 41) S.1 S.2.1 dX1_knockThrough_30 (by decide) (fun c8 => ?_) (fun c8 => ?_)
        · replace h := (if_pos c8).symm.trans h
          refine lv_iinc (v := x4 + (1 : Int32)) (lv' := [(4, .int (x4 + (1 : Int32))), (0, .ref (ad a)), (1, .int p1), (2, .int p2), (3, .int ((M.1 (a + 2) (p1).toNatClampNeg) ||| (M.1 (a + 2) (p2).toNatClampNeg)))]) S.1 S.2.1 dX1_knockThrough_41 hl (k := 4) rfl rfl (by decide) rfl (fun ls hl => ?_)
          refine lv_goto (tgt := 17) S.1 S.2.1 dX1_knockThrough_44 (by decide) ?_
          exact ih _ _ _ _ h _ _ _ (lv_sub hl [1, 2, 3, 4, 0] rfl) hW K
        · replace h := (if_neg c8).symm.trans h
          refine lv_aload_n S.1 S.2.1 dX1_knockThrough_33 rfl (lv_at hl 0 rfl) ?_
          refine fl_get S hK iX1 rfl al0 as0 1 (by decide) (hq _ q_31) (fun _ h9 => h9) (fvs_R rfl ar1) hW dX1_knockThrough_34 ?_
          refine lv_iload S.1 S.2.1 dX1_knockThrough_37 (lv_at hl 4 rfl) ?_
          refine lv_iload_n S.1 S.2.1 dX1_knockThrough_39 rfl (lv_at hl 3 rfl) ?_
          obtain ⟨g9, h⟩ := ix_some h
          refine fl_iast S hK hJ hA al2 as2 g9 hW dX1_knockThrough_40 (fun H locs hW => ?_)
          obtain ⟨M10, e11, h⟩ := lt_some h
          rw [e11] at hW
          clear e11
          refine lv_iinc (v := x4 + (1 : Int32)) (lv' := [(4, .int (x4 + (1 : Int32))), (0, .ref (ad a)), (1, .int p1), (2, .int p2), (3, .int ((M.1 (a + 2) (p1).toNatClampNeg) ||| (M.1 (a + 2) (p2).toNatClampNeg)))]) S.1 S.2.1 dX1_knockThrough_41 hl (k := 4) rfl rfl (by decide) rfl (fun ls hl => ?_)
          refine lv_goto (tgt := 17) S.1 S.2.1 dX1_knockThrough_44 (by decide) ?_
          exact ih _ _ _ _ h _ _ _ (lv_sub hl [1, 2, 3, 4, 0] rfl) hW K
  obtain ⟨w3, M4, u12, h⟩ := b2_some h
  refine L17 50000 _ _ _ _ u12 _ _ _ (lv_sub hl [2, 3, 4, 1, 0] rfl) hW (fun H locs ls hl hW => ?_)
  clear L17
  obtain rfl := s1 h
  exact fl_vret S.1 S.2.1 hr hlocks hW dX1_knockThrough_47
def fX1_buildAnew_L2 (a : Nat) (p1 : Int32) : Nat → Int32 → Mm → Option (Int32 × Mm)
  | 0, _, _ => none
  | n + 1, x2, Ml => if (6 : Int32) ≤ x2 then (some (x2, Ml)) else (ix x2 6 (bP (fX6_bit p1) (fun (v6 : Int32) => ix x2 6 (lt (wI Ml (a + 2) (x2).toNatClampNeg ((Ml.1 (a + 2) (x2).toNatClampNeg) &&& (v6 ^^^ (-1 : Int32)))) (fun (M8 : Mm) => fX1_buildAnew_L2 a p1 n (x2 + (1 : Int32)) M8)))))
def fX1_buildAnew (a : Nat) (p1 : Int32) (M : Mm) : Option (Mm) :=
  b2 (fX1_buildAnew_L2 a p1 50000 (0 : Int32) M) (fun (w1 : Int32) (M2 : Mm) => bP (fX6_bit p1) (fun (v11 : Int32) => ix p1 6 (lt (wI M2 (a + 2) (p1).toNatClampNeg v11) (fun (M13 : Mm) => ix p1 6 (lt (wI M13 (a + 1) (p1).toNatClampNeg (0 : Int32)) (fun (M16 : Mm) => some M16))))))
set_option maxHeartbeats 4000000 in
set_option maxRecDepth 100000 in
theorem kX1_buildAnew (l : Launch) {D : va_G} {cy : Nat → ClassId} {ad : Nat → Nat} (hJ : Inj ad 80) (a : Nat) (ha : isM a = true) (p1 : Int32) (M : Mm) (M' : Mm) (h : fX1_buildAnew a p1 M = some M') : Met l yX1_buildAnew vX1_buildAnew ({ frames := 1, cells := 0, slots := 0, locals := 20 } : Room) (PcF [.ref (ad a), .int p1] D cy ad kdV shC rfC 80 M) (QcV D cy ad kdV shC rfC 80 M') 0 0 (AV ad 80) := by
  refine Met.ofW (cc := cX1_buildAnew) (maxL := 3) (ret := none) (by decide) rfl ?_
  intro p e s m args below meth c s₁ B hml hv
  obtain ⟨rfl, hP, hK, hN⟩ := hv
  have hr := B.returns
  have hlocks := B.notSynchronized
  have S : CallFix p m c cX1_buildAnew 3 s ([.ref (ad a), .int p1] : List Value).toArray vX1_buildAnew RX1 := ⟨B.exec, B.bytes, hml, findClass_of_methodNamed B.named, atoms_spec (ws := vX1_buildAnew) B.pre⟩
  have hq : ∀ w ∈ GW, w.before ([.ref (ad a), .int p1] : List Value).toArray s = true := fun w h => S.2.2.2.2 w (List.mem_cons_of_mem _ h)
  have hA : ∀ k, k < 80 → AV ad 80 (ad k) := fun k hk => ⟨k, hk, rfl⟩
  have hW : WSt D cy ad kdV shC rfC 80 (AV ad 80) M s.heap s.heap [] := ⟨hP, va_S.rf⟩
  clear hP
  have iX1 : ∀ w ∈ wsX10, w ∈ vX1_buildAnew := fun w h => List.mem_cons_of_mem _ (inX1 w h)
  obtain ⟨⟨al0, as0⟩, ⟨al1, as1⟩, ⟨al2, as2⟩, ⟨al3, as3⟩, ar0, ar1, ar2⟩ := isM_ok ha
  have hl := lv_entry ([.ref (ad a), .int p1]) (n := 3) (Nat.le_of_ble_eq_true rfl)
  rw [lg_entry_eq]
  generalize (lg_sl ([.ref (ad a), .int p1]) ++ List.replicate (3 - (lg_sl ([.ref (ad a), .int p1])).length) Slot.unset).toArray = ls at hl ⊢
  have hl : lv_has ls 3 [(0, .ref (ad a)), (1, .int p1)] := hl
  rw [fX1_buildAnew] at h
  refine lv_iconst (v := (0 : Int32)) S.1 S.2.1 dX1_buildAnew_0 (by decide) ?_
  refine lv_istore_n (lv' := [(2, .int (0 : Int32)), (0, .ref (ad a)), (1, .int p1)]) S.1 S.2.1 dX1_buildAnew_1 rfl hl (by decide) rfl (fun ls hl => ?_)
  have L2 : ∀ (n : Nat) (x2 : Int32) (Ml : Mm) (w1 : Int32) (M2 : Mm), fX1_buildAnew_L2 a p1 n x2 Ml = some (w1, M2) → ∀ (H : Heap) (locs : List Loc) (ls : Array Slot), lv_has ls 3 [(0, .ref (ad a)), (1, .int p1), (2, .int x2)] → WSt D cy ad kdV shC rfC 80 (AV ad 80) Ml s.heap H locs → (∀ (H : Heap) (locs : List Loc) (ls : Array Slot), lv_has ls 3 [(0, .ref (ad a)), (1, .int p1), (2, .int w1)] → WSt D cy ad kdV shC rfC 80 (AV ad 80) M2 s.heap H locs → W p l e (headSpec vX1_buildAnew ({ frames := 1, cells := 0, slots := 0, locals := 20 } : Room)).room s m ([.ref (ad a), .int p1] : List Value).toArray below meth c H locs 0 0 (MQ below (QcV D cy ad kdV shC rfC 80 M') ([.ref (ad a), .int p1] : List Value).toArray s 0 0 (AV ad 80)) (F0 m 29 ls [])) → W p l e (headSpec vX1_buildAnew ({ frames := 1, cells := 0, slots := 0, locals := 20 } : Room)).room s m ([.ref (ad a), .int p1] : List Value).toArray below meth c H locs 0 0 (MQ below (QcV D cy ad kdV shC rfC 80 M') ([.ref (ad a), .int p1] : List Value).toArray s 0 0 (AV ad 80)) (F0 m 2 ls []) := by
    intro n
    induction n with
    | zero => intro x2 Ml w1 M2 h; cases h
    | succ n ih =>
      intro x2 Ml w1 M2 h H locs ls hl hW K
      rw [fX1_buildAnew_L2] at h
      refine lv_iload_n S.1 S.2.1 dX1_buildAnew_2 rfl (lv_at hl 2 rfl) ?_
      refine lv_bipush (v := (6 : Int32)) S.1 S.2.1 dX1_buildAnew_3 (by decide) ?_
      refine lv_icmp_ge (tgt := 29) S.1 S.2.1 dX1_buildAnew_5 (by decide) (fun c3 => ?_) (fun c3 => ?_)
      · replace h := (if_pos c3).symm.trans h
        obtain ⟨rfl, rfl⟩ := s2 h
        exact K _ _ _ hl hW
      · replace h := (if_neg c3).symm.trans h
        refine lv_aload_n S.1 S.2.1 dX1_buildAnew_8 rfl (lv_at hl 0 rfl) ?_
        refine fl_get S hK iX1 rfl al0 as0 1 (by decide) (hq _ q_31) (fun _ h9 => h9) (fvs_R rfl ar1) hW dX1_buildAnew_9 ?_
        refine lv_iload_n S.1 S.2.1 dX1_buildAnew_12 rfl (lv_at hl 2 rfl) ?_
        refine lv_dup2_11 S.1 S.2.1 dX1_buildAnew_13 rfl rfl ?_
        obtain ⟨g4, h⟩ := ix_some h
        refine fl_iald S hK al2 as2 g4 hW dX1_buildAnew_14 ?_
        refine lv_iload_n S.1 S.2.1 dX1_buildAnew_15 rfl (lv_at hl 1 rfl) ?_
        obtain ⟨v6, u5, h⟩ := bP_some h
        refine fl_doneP (fl_runSN S (kX6_bit l p1 v6 u5) ⟨va_cnB 1 S.2.2.2.2 (gN q_0) rfl rfl rfl (hN.m 8 rfl) (hq _ q_3) (by decide +kernel) ⟨Nat.le_of_ble_eq_true rfl, Nat.le_of_ble_eq_true rfl⟩, (hq _ q_2), trivial⟩ rfl hl.1 rfl (Nat.le_of_ble_eq_true rfl) dX1_buildAnew_16 ⟨Nat.zero_le _, Nat.zero_le _⟩) hW (fun H locs hW => ?_)
        refine lv_iconst (v := (-1 : Int32)) S.1 S.2.1 dX1_buildAnew_19 (by decide) ?_
        refine lv_ixor S.1 S.2.1 dX1_buildAnew_20 ?_
        refine lv_iand S.1 S.2.1 dX1_buildAnew_21 ?_
        obtain ⟨g7, h⟩ := ix_some h
        refine fl_iast S hK hJ hA al2 as2 g7 hW dX1_buildAnew_22 (fun H locs hW => ?_)
        obtain ⟨M8, e9, h⟩ := lt_some h
        rw [e9] at hW
        clear e9
        refine lv_iinc (v := x2 + (1 : Int32)) (lv' := [(2, .int (x2 + (1 : Int32))), (0, .ref (ad a)), (1, .int p1)]) S.1 S.2.1 dX1_buildAnew_23 hl (k := 2) rfl rfl (by decide) rfl (fun ls hl => ?_)
        refine lv_goto (tgt := 2) S.1 S.2.1 dX1_buildAnew_26 (by decide) ?_
        exact ih _ _ _ _ h _ _ _ (lv_sub hl [1, 2, 0] rfl) hW K
  obtain ⟨w1, M2, u18, h⟩ := b2_some h
  refine L2 50000 _ _ _ _ u18 _ _ _ (lv_sub hl [1, 2, 0] rfl) hW (fun H locs ls hl hW => ?_)
  clear L2
  refine lv_aload_n S.1 S.2.1 dX1_buildAnew_29 rfl (lv_at hl 0 rfl) ?_
  refine fl_get S hK iX1 rfl al0 as0 1 (by decide) (hq _ q_31) (fun _ h9 => h9) (fvs_R rfl ar1) hW dX1_buildAnew_30 ?_
  refine lv_iload_n S.1 S.2.1 dX1_buildAnew_33 rfl (lv_at hl 1 rfl) ?_
  refine lv_iload_n S.1 S.2.1 dX1_buildAnew_34 rfl (lv_at hl 1 rfl) ?_
  obtain ⟨v11, u10, h⟩ := bP_some h
  refine fl_doneP (fl_runSN S (kX6_bit l p1 v11 u10) ⟨va_cnB 1 S.2.2.2.2 (gN q_0) rfl rfl rfl (hN.m 8 rfl) (hq _ q_3) (by decide +kernel) ⟨Nat.le_of_ble_eq_true rfl, Nat.le_of_ble_eq_true rfl⟩, (hq _ q_2), trivial⟩ rfl hl.1 rfl (Nat.le_of_ble_eq_true rfl) dX1_buildAnew_35 ⟨Nat.zero_le _, Nat.zero_le _⟩) hW (fun H locs hW => ?_)
  obtain ⟨g12, h⟩ := ix_some h
  refine fl_iast S hK hJ hA al2 as2 g12 hW dX1_buildAnew_38 (fun H locs hW => ?_)
  obtain ⟨M13, e14, h⟩ := lt_some h
  rw [e14] at hW
  clear e14
  refine lv_aload_n S.1 S.2.1 dX1_buildAnew_39 rfl (lv_at hl 0 rfl) ?_
  refine fl_get S hK iX1 rfl al0 as0 0 (by decide) (hq _ q_30) (fun _ h9 => h9) (fvs_R rfl ar0) hW dX1_buildAnew_40 ?_
  refine lv_iload_n S.1 S.2.1 dX1_buildAnew_43 rfl (lv_at hl 1 rfl) ?_
  refine lv_iconst (v := (0 : Int32)) S.1 S.2.1 dX1_buildAnew_44 (by decide) ?_
  obtain ⟨g15, h⟩ := ix_some h
  refine fl_iast S hK hJ hA al1 as1 g15 hW dX1_buildAnew_45 (fun H locs hW => ?_)
  obtain ⟨M16, e17, h⟩ := lt_some h
  rw [e17] at hW
  clear e17
  obtain rfl := s1 h
  exact fl_vret S.1 S.2.1 hr hlocks hW dX1_buildAnew_46
def fX1_howManyAheadOf_L4 (a : Nat) (p1 : Int32) (M : Mm) : Nat → Int32 → Int32 → Option (Int32 × Int32)
  | 0, _, _ => none
  | n + 1, x2, x3 => if (6 : Int32) ≤ x3 then (some (x2, x3)) else (ix x3 6 (ix p1 6 (if (M.1 (a + 3) (p1).toNatClampNeg) < (M.1 (a + 3) (x3).toNatClampNeg) then (bP (fX6_has (M.1 a 5) x3) (fun (v8 : Int32) => if v8 = 0 then (fX1_howManyAheadOf_L4 a p1 M n x2 (x3 + (1 : Int32))) else (if (1 : Int32) = 0 then (fX1_howManyAheadOf_L4 a p1 M n x2 (x3 + (1 : Int32))) else (fX1_howManyAheadOf_L4 a p1 M n (x2 + (1 : Int32)) (x3 + (1 : Int32)))))) else (ix x3 6 (ix p1 6 (if (M.1 (a + 3) (x3).toNatClampNeg) = (M.1 (a + 3) (p1).toNatClampNeg) then (if p1 ≤ x3 then (bP (fX6_has (M.1 a 5) x3) (fun (v16 : Int32) => if v16 = 0 then (fX1_howManyAheadOf_L4 a p1 M n x2 (x3 + (1 : Int32))) else (if (0 : Int32) = 0 then (fX1_howManyAheadOf_L4 a p1 M n x2 (x3 + (1 : Int32))) else (fX1_howManyAheadOf_L4 a p1 M n (x2 + (1 : Int32)) (x3 + (1 : Int32)))))) else (bP (fX6_has (M.1 a 5) x3) (fun (v20 : Int32) => if v20 = 0 then (fX1_howManyAheadOf_L4 a p1 M n x2 (x3 + (1 : Int32))) else (if (1 : Int32) = 0 then (fX1_howManyAheadOf_L4 a p1 M n x2 (x3 + (1 : Int32))) else (fX1_howManyAheadOf_L4 a p1 M n (x2 + (1 : Int32)) (x3 + (1 : Int32))))))) else (bP (fX6_has (M.1 a 5) x3) (fun (v24 : Int32) => if v24 = 0 then (fX1_howManyAheadOf_L4 a p1 M n x2 (x3 + (1 : Int32))) else (if (0 : Int32) = 0 then (fX1_howManyAheadOf_L4 a p1 M n x2 (x3 + (1 : Int32))) else (fX1_howManyAheadOf_L4 a p1 M n (x2 + (1 : Int32)) (x3 + (1 : Int32))))))))))))
def fX1_howManyAheadOf (a : Nat) (p1 : Int32) (M : Mm) : Option (Int32) :=
  b2 (fX1_howManyAheadOf_L4 a p1 M 50000 (0 : Int32) (0 : Int32)) (fun (w1 : Int32) (w2 : Int32) => some w1)
set_option maxHeartbeats 4000000 in
set_option maxRecDepth 100000 in
theorem kX1_howManyAheadOf (l : Launch) {D : va_G} {cy : Nat → ClassId} {ad : Nat → Nat} (hJ : Inj ad 80) (a : Nat) (ha : isM a = true) (p1 : Int32) (M : Mm) (r : Int32) (h : fX1_howManyAheadOf a p1 M = some r) : Met l yX1_howManyAheadOf vX1_howManyAheadOf ({ frames := 2, cells := 0, slots := 0, locals := 41 } : Room) (PcF [.ref (ad a), .int p1] D cy ad kdV shC rfC 80 M) (QcI r D cy ad kdV shC rfC 80 M) 0 0 (AV ad 80) := by
  refine Met.ofW (cc := cX1_howManyAheadOf) (maxL := 5) (ret := (some .int)) (by decide) rfl ?_
  intro p e s m args below meth c s₁ B hml hv
  obtain ⟨rfl, hP, hK, hN⟩ := hv
  have hr := B.returns
  have hlocks := B.notSynchronized
  have S : CallFix p m c cX1_howManyAheadOf 5 s ([.ref (ad a), .int p1] : List Value).toArray vX1_howManyAheadOf RX1 := ⟨B.exec, B.bytes, hml, findClass_of_methodNamed B.named, atoms_spec (ws := vX1_howManyAheadOf) B.pre⟩
  have hq : ∀ w ∈ GW, w.before ([.ref (ad a), .int p1] : List Value).toArray s = true := fun w h => S.2.2.2.2 w (List.mem_cons_of_mem _ h)
  have hA : ∀ k, k < 80 → AV ad 80 (ad k) := fun k hk => ⟨k, hk, rfl⟩
  have hW : WSt D cy ad kdV shC rfC 80 (AV ad 80) M s.heap s.heap [] := ⟨hP, va_S.rf⟩
  clear hP
  have iX1 : ∀ w ∈ wsX10, w ∈ vX1_howManyAheadOf := fun w h => List.mem_cons_of_mem _ (inX1 w h)
  obtain ⟨⟨al0, as0⟩, ⟨al1, as1⟩, ⟨al2, as2⟩, ⟨al3, as3⟩, ar0, ar1, ar2⟩ := isM_ok ha
  have hl := lv_entry ([.ref (ad a), .int p1]) (n := 5) (Nat.le_of_ble_eq_true rfl)
  rw [lg_entry_eq]
  generalize (lg_sl ([.ref (ad a), .int p1]) ++ List.replicate (5 - (lg_sl ([.ref (ad a), .int p1])).length) Slot.unset).toArray = ls at hl ⊢
  have hl : lv_has ls 5 [(0, .ref (ad a)), (1, .int p1)] := hl
  rw [fX1_howManyAheadOf] at h
  refine lv_iconst (v := (0 : Int32)) S.1 S.2.1 dX1_howManyAheadOf_0 (by decide) ?_
  refine lv_istore_n (lv' := [(2, .int (0 : Int32)), (0, .ref (ad a)), (1, .int p1)]) S.1 S.2.1 dX1_howManyAheadOf_1 rfl hl (by decide) rfl (fun ls hl => ?_)
  refine lv_iconst (v := (0 : Int32)) S.1 S.2.1 dX1_howManyAheadOf_2 (by decide) ?_
  refine lv_istore_n (lv' := [(3, .int (0 : Int32)), (2, .int (0 : Int32)), (0, .ref (ad a)), (1, .int p1)]) S.1 S.2.1 dX1_howManyAheadOf_3 rfl hl (by decide) rfl (fun ls hl => ?_)
  have L4 : ∀ (n : Nat) (x2 : Int32) (x3 : Int32) (w1 : Int32) (w2 : Int32), fX1_howManyAheadOf_L4 a p1 M n x2 x3 = some (w1, w2) → ∀ (H : Heap) (locs : List Loc) (ls : Array Slot), lv_has ls 5 [(0, .ref (ad a)), (1, .int p1), (2, .int x2), (3, .int x3)] → WSt D cy ad kdV shC rfC 80 (AV ad 80) M s.heap H locs → (∀ (H : Heap) (locs : List Loc) (ls : Array Slot), lv_has ls 5 [(0, .ref (ad a)), (1, .int p1), (2, .int w1), (3, .int w2)] → WSt D cy ad kdV shC rfC 80 (AV ad 80) M s.heap H locs → W p l e (headSpec vX1_howManyAheadOf ({ frames := 2, cells := 0, slots := 0, locals := 41 } : Room)).room s m ([.ref (ad a), .int p1] : List Value).toArray below meth c H locs 0 0 (MQ below (QcI r D cy ad kdV shC rfC 80 M) ([.ref (ad a), .int p1] : List Value).toArray s 0 0 (AV ad 80)) (F0 m 77 ls [])) → W p l e (headSpec vX1_howManyAheadOf ({ frames := 2, cells := 0, slots := 0, locals := 41 } : Room)).room s m ([.ref (ad a), .int p1] : List Value).toArray below meth c H locs 0 0 (MQ below (QcI r D cy ad kdV shC rfC 80 M) ([.ref (ad a), .int p1] : List Value).toArray s 0 0 (AV ad 80)) (F0 m 4 ls []) := by
    intro n
    induction n with
    | zero => intro x2 x3 w1 w2 h; cases h
    | succ n ih =>
      intro x2 x3 w1 w2 h H locs ls hl hW K
      rw [fX1_howManyAheadOf_L4] at h
      refine lv_iload_n S.1 S.2.1 dX1_howManyAheadOf_4 rfl (lv_at hl 3 rfl) ?_
      refine lv_bipush (v := (6 : Int32)) S.1 S.2.1 dX1_howManyAheadOf_5 (by decide) ?_
      refine lv_icmp_ge (tgt := 77) S.1 S.2.1 dX1_howManyAheadOf_7 (by decide) (fun c3 => ?_) (fun c3 => ?_)
      · replace h := (if_pos c3).symm.trans h
        obtain ⟨rfl, rfl⟩ := s2 h
        exact K _ _ _ hl hW
      · replace h := (if_neg c3).symm.trans h
        refine lv_aload_n S.1 S.2.1 dX1_howManyAheadOf_10 rfl (lv_at hl 0 rfl) ?_
        refine fl_get S hK iX1 rfl al0 as0 2 (by decide) (hq _ q_36) (fun _ h9 => h9) (fvs_R rfl ar2) hW dX1_howManyAheadOf_11 ?_
        refine lv_iload_n S.1 S.2.1 dX1_howManyAheadOf_14 rfl (lv_at hl 3 rfl) ?_
        obtain ⟨g4, h⟩ := ix_some h
        refine fl_iald S hK al3 as3 g4 hW dX1_howManyAheadOf_15 ?_
        refine lv_aload_n S.1 S.2.1 dX1_howManyAheadOf_16 rfl (lv_at hl 0 rfl) ?_
        refine fl_get S hK iX1 rfl al0 as0 2 (by decide) (hq _ q_36) (fun _ h9 => h9) (fvs_R rfl ar2) hW dX1_howManyAheadOf_17 ?_
        refine lv_iload_n S.1 S.2.1 dX1_howManyAheadOf_20 rfl (lv_at hl 1 rfl) ?_
        obtain ⟨g5, h⟩ := ix_some h
        refine fl_iald S hK al3 as3 g5 hW dX1_howManyAheadOf_21 ?_
        refine lv_icmp_gt (tgt := 45) S.1 S.2.1 dX1_howManyAheadOf_22 (by decide) (fun c6 => ?_) (fun c6 => ?_)
        · replace h := (if_pos c6).symm.trans h
          refine lv_iconst (v := (1 : Int32)) S.1 S.2.1 dX1_howManyAheadOf_45 (by decide) ?_
          refine lv_goto (tgt := 50) S.1 S.2.1 dX1_howManyAheadOf_46 (by decide) ?_
          refine lv_istore (lv' := [(4, .int (1 : Int32)), (0, .ref (ad a)), (1, .int p1), (2, .int x2), (3, .int x3)]) S.1 S.2.1 dX1_howManyAheadOf_50 hl (by decide) rfl (fun ls hl => ?_)
          refine lv_aload_n S.1 S.2.1 dX1_howManyAheadOf_52 rfl (lv_at hl 1 rfl) ?_
          refine fl_get S hK iX1 rfl al0 as0 5 (by decide) (hq _ q_29) (fun _ h9 => h9) (fvs_I rfl) hW dX1_howManyAheadOf_53 ?_
          refine lv_iload_n S.1 S.2.1 dX1_howManyAheadOf_56 rfl (lv_at hl 4 rfl) ?_
          obtain ⟨v8, u7, h⟩ := bP_some h
          refine fl_doneP (fl_runSN S (kX6_has l (M.1 a 5) x3 v8 u7) ⟨va_cnB 2 S.2.2.2.2 (gN q_5) rfl rfl rfl (hN.m 13 rfl) (hq _ q_3) (by decide +kernel) ⟨Nat.le_of_ble_eq_true rfl, Nat.le_of_ble_eq_true rfl⟩, (hq _ q_6), trivial⟩ rfl hl.1 rfl (Nat.le_of_ble_eq_true rfl) dX1_howManyAheadOf_57 ⟨Nat.zero_le _, Nat.zero_le _⟩) hW (fun H locs hW => ?_)
          refine lv_if_eq (tgt := 71) S.1 S.2.1 dX1_howManyAheadOf_60 (by decide) (fun c9 => ?_) (fun c9 => ?_)
          · replace h := (if_pos c9).symm.trans h
            refine lv_iinc (v := x3 + (1 : Int32)) (lv' := [(3, .int (x3 + (1 : Int32))), (4, .int (1 : Int32)), (0, .ref (ad a)), (1, .int p1), (2, .int x2)]) S.1 S.2.1 dX1_howManyAheadOf_71 hl (k := 4) rfl rfl (by decide) rfl (fun ls hl => ?_)
            refine lv_goto (tgt := 4) S.1 S.2.1 dX1_howManyAheadOf_74 (by decide) ?_
            exact ih _ _ _ _ h _ _ _ (lv_sub hl [2, 3, 4, 0] rfl) hW K
          · replace h := (if_neg c9).symm.trans h
            refine lv_iload S.1 S.2.1 dX1_howManyAheadOf_63 (lv_at hl 0 rfl) ?_
            refine lv_if_eq (tgt := 71) S.1 S.2.1 dX1_howManyAheadOf_65 (by decide) (fun c10 => ?_) (fun c10 => ?_)
            · replace h := (if_pos c10).symm.trans h
              refine lv_iinc (v := x3 + (1 : Int32)) (lv' := [(3, .int (x3 + (1 : Int32))), (4, .int (1 : Int32)), (0, .ref (ad a)), (1, .int p1), (2, .int x2)]) S.1 S.2.1 dX1_howManyAheadOf_71 hl (k := 4) rfl rfl (by decide) rfl (fun ls hl => ?_)
              refine lv_goto (tgt := 4) S.1 S.2.1 dX1_howManyAheadOf_74 (by decide) ?_
              exact ih _ _ _ _ h _ _ _ (lv_sub hl [2, 3, 4, 0] rfl) hW K
            · replace h := (if_neg c10).symm.trans h
              refine lv_iinc (v := x2 + (1 : Int32)) (lv' := [(2, .int (x2 + (1 : Int32))), (4, .int (1 : Int32)), (0, .ref (ad a)), (1, .int p1), (3, .int x3)]) S.1 S.2.1 dX1_howManyAheadOf_68 hl (k := 3) rfl rfl (by decide) rfl (fun ls hl => ?_)
              refine lv_iinc (v := x3 + (1 : Int32)) (lv' := [(3, .int (x3 + (1 : Int32))), (2, .int (x2 + (1 : Int32))), (4, .int (1 : Int32)), (0, .ref (ad a)), (1, .int p1)]) S.1 S.2.1 dX1_howManyAheadOf_71 hl (k := 4) rfl rfl (by decide) rfl (fun ls hl => ?_)
              refine lv_goto (tgt := 4) S.1 S.2.1 dX1_howManyAheadOf_74 (by decide) ?_
              exact ih _ _ _ _ h _ _ _ (lv_sub hl [3, 4, 1, 0] rfl) hW K
        · replace h := (if_neg c6).symm.trans h
          refine lv_aload_n S.1 S.2.1 dX1_howManyAheadOf_25 rfl (lv_at hl 0 rfl) ?_
          refine fl_get S hK iX1 rfl al0 as0 2 (by decide) (hq _ q_36) (fun _ h9 => h9) (fvs_R rfl ar2) hW dX1_howManyAheadOf_26 ?_
          refine lv_iload_n S.1 S.2.1 dX1_howManyAheadOf_29 rfl (lv_at hl 3 rfl) ?_
          obtain ⟨g11, h⟩ := ix_some h
          refine fl_iald S hK al3 as3 g11 hW dX1_howManyAheadOf_30 ?_
          refine lv_aload_n S.1 S.2.1 dX1_howManyAheadOf_31 rfl (lv_at hl 0 rfl) ?_
          refine fl_get S hK iX1 rfl al0 as0 2 (by decide) (hq _ q_36) (fun _ h9 => h9) (fvs_R rfl ar2) hW dX1_howManyAheadOf_32 ?_
          refine lv_iload_n S.1 S.2.1 dX1_howManyAheadOf_35 rfl (lv_at hl 1 rfl) ?_
          obtain ⟨g12, h⟩ := ix_some h
          refine fl_iald S hK al3 as3 g12 hW dX1_howManyAheadOf_36 ?_
          refine lv_icmp_ne (tgt := 49) S.1 S.2.1 dX1_howManyAheadOf_37 (by decide) (fun c13 => ?_) (fun c13 => ?_)
          · replace h := (if_neg c13).symm.trans h
            refine lv_iconst (v := (0 : Int32)) S.1 S.2.1 dX1_howManyAheadOf_49 (by decide) ?_
            refine lv_istore (lv' := [(4, .int (0 : Int32)), (0, .ref (ad a)), (1, .int p1), (2, .int x2), (3, .int x3)]) S.1 S.2.1 dX1_howManyAheadOf_50 hl (by decide) rfl (fun ls hl => ?_)
            refine lv_aload_n S.1 S.2.1 dX1_howManyAheadOf_52 rfl (lv_at hl 1 rfl) ?_
            refine fl_get S hK iX1 rfl al0 as0 5 (by decide) (hq _ q_29) (fun _ h9 => h9) (fvs_I rfl) hW dX1_howManyAheadOf_53 ?_
            refine lv_iload_n S.1 S.2.1 dX1_howManyAheadOf_56 rfl (lv_at hl 4 rfl) ?_
            obtain ⟨v24, u23, h⟩ := bP_some h
            refine fl_doneP (fl_runSN S (kX6_has l (M.1 a 5) x3 v24 u23) ⟨va_cnB 2 S.2.2.2.2 (gN q_5) rfl rfl rfl (hN.m 13 rfl) (hq _ q_3) (by decide +kernel) ⟨Nat.le_of_ble_eq_true rfl, Nat.le_of_ble_eq_true rfl⟩, (hq _ q_6), trivial⟩ rfl hl.1 rfl (Nat.le_of_ble_eq_true rfl) dX1_howManyAheadOf_57 ⟨Nat.zero_le _, Nat.zero_le _⟩) hW (fun H locs hW => ?_)
            refine lv_if_eq (tgt := 71) S.1 S.2.1 dX1_howManyAheadOf_60 (by decide) (fun c25 => ?_) (fun c25 => ?_)
            · replace h := (if_pos c25).symm.trans h
              refine lv_iinc (v := x3 + (1 : Int32)) (lv' := [(3, .int (x3 + (1 : Int32))), (4, .int (0 : Int32)), (0, .ref (ad a)), (1, .int p1), (2, .int x2)]) S.1 S.2.1 dX1_howManyAheadOf_71 hl (k := 4) rfl rfl (by decide) rfl (fun ls hl => ?_)
              refine lv_goto (tgt := 4) S.1 S.2.1 dX1_howManyAheadOf_74 (by decide) ?_
              exact ih _ _ _ _ h _ _ _ (lv_sub hl [2, 3, 4, 0] rfl) hW K
            · replace h := (if_neg c25).symm.trans h
              refine lv_iload S.1 S.2.1 dX1_howManyAheadOf_63 (lv_at hl 0 rfl) ?_
              refine lv_if_eq (tgt := 71) S.1 S.2.1 dX1_howManyAheadOf_65 (by decide) (fun c26 => ?_) (fun c26 => ?_)
              · replace h := (if_pos c26).symm.trans h
                refine lv_iinc (v := x3 + (1 : Int32)) (lv' := [(3, .int (x3 + (1 : Int32))), (4, .int (0 : Int32)), (0, .ref (ad a)), (1, .int p1), (2, .int x2)]) S.1 S.2.1 dX1_howManyAheadOf_71 hl (k := 4) rfl rfl (by decide) rfl (fun ls hl => ?_)
                refine lv_goto (tgt := 4) S.1 S.2.1 dX1_howManyAheadOf_74 (by decide) ?_
                exact ih _ _ _ _ h _ _ _ (lv_sub hl [2, 3, 4, 0] rfl) hW K
              · replace h := (if_neg c26).symm.trans h
                refine lv_iinc (v := x2 + (1 : Int32)) (lv' := [(2, .int (x2 + (1 : Int32))), (4, .int (0 : Int32)), (0, .ref (ad a)), (1, .int p1), (3, .int x3)]) S.1 S.2.1 dX1_howManyAheadOf_68 hl (k := 3) rfl rfl (by decide) rfl (fun ls hl => ?_)
                refine lv_iinc (v := x3 + (1 : Int32)) (lv' := [(3, .int (x3 + (1 : Int32))), (2, .int (x2 + (1 : Int32))), (4, .int (0 : Int32)), (0, .ref (ad a)), (1, .int p1)]) S.1 S.2.1 dX1_howManyAheadOf_71 hl (k := 4) rfl rfl (by decide) rfl (fun ls hl => ?_)
                refine lv_goto (tgt := 4) S.1 S.2.1 dX1_howManyAheadOf_74 (by decide) ?_
                exact ih _ _ _ _ h _ _ _ (lv_sub hl [3, 4, 1, 0] rfl) hW K
          · replace h := (if_pos c13).symm.trans h
            refine lv_iload_n S.1 S.2.1 dX1_howManyAheadOf_40 rfl (lv_at hl 3 rfl) ?_
            refine lv_iload_n S.1 S.2.1 dX1_howManyAheadOf_41 rfl (lv_at hl 1 rfl) ?_
            refine lv_icmp_ge (tgt := 49) S.1 S.2.1 dX1_howManyAheadOf_42 (by decide) (fun c14 => ?_) (fun c14 => ?_)
            · replace h := (if_pos c14).symm.trans h
              refine lv_iconst (v := (0 : Int32)) S.1 S.2.1 dX1_howManyAheadOf_49 (by decide) ?_
              refine lv_istore (lv' := [(4, .int (0 : Int32)), (0, .ref (ad a)), (1, .int p1), (2, .int x2), (3, .int x3)]) S.1 S.2.1 dX1_howManyAheadOf_50 hl (by decide) rfl (fun ls hl => ?_)
              refine lv_aload_n S.1 S.2.1 dX1_howManyAheadOf_52 rfl (lv_at hl 1 rfl) ?_
              refine fl_get S hK iX1 rfl al0 as0 5 (by decide) (hq _ q_29) (fun _ h9 => h9) (fvs_I rfl) hW dX1_howManyAheadOf_53 ?_
              refine lv_iload_n S.1 S.2.1 dX1_howManyAheadOf_56 rfl (lv_at hl 4 rfl) ?_
              obtain ⟨v16, u15, h⟩ := bP_some h
              refine fl_doneP (fl_runSN S (kX6_has l (M.1 a 5) x3 v16 u15) ⟨va_cnB 2 S.2.2.2.2 (gN q_5) rfl rfl rfl (hN.m 13 rfl) (hq _ q_3) (by decide +kernel) ⟨Nat.le_of_ble_eq_true rfl, Nat.le_of_ble_eq_true rfl⟩, (hq _ q_6), trivial⟩ rfl hl.1 rfl (Nat.le_of_ble_eq_true rfl) dX1_howManyAheadOf_57 ⟨Nat.zero_le _, Nat.zero_le _⟩) hW (fun H locs hW => ?_)
              refine lv_if_eq (tgt := 71) S.1 S.2.1 dX1_howManyAheadOf_60 (by decide) (fun c17 => ?_) (fun c17 => ?_)
              · replace h := (if_pos c17).symm.trans h
                refine lv_iinc (v := x3 + (1 : Int32)) (lv' := [(3, .int (x3 + (1 : Int32))), (4, .int (0 : Int32)), (0, .ref (ad a)), (1, .int p1), (2, .int x2)]) S.1 S.2.1 dX1_howManyAheadOf_71 hl (k := 4) rfl rfl (by decide) rfl (fun ls hl => ?_)
                refine lv_goto (tgt := 4) S.1 S.2.1 dX1_howManyAheadOf_74 (by decide) ?_
                exact ih _ _ _ _ h _ _ _ (lv_sub hl [2, 3, 4, 0] rfl) hW K
              · replace h := (if_neg c17).symm.trans h
                refine lv_iload S.1 S.2.1 dX1_howManyAheadOf_63 (lv_at hl 0 rfl) ?_
                refine lv_if_eq (tgt := 71) S.1 S.2.1 dX1_howManyAheadOf_65 (by decide) (fun c18 => ?_) (fun c18 => ?_)
                · replace h := (if_pos c18).symm.trans h
                  refine lv_iinc (v := x3 + (1 : Int32)) (lv' := [(3, .int (x3 + (1 : Int32))), (4, .int (0 : Int32)), (0, .ref (ad a)), (1, .int p1), (2, .int x2)]) S.1 S.2.1 dX1_howManyAheadOf_71 hl (k := 4) rfl rfl (by decide) rfl (fun ls hl => ?_)
                  refine lv_goto (tgt := 4) S.1 S.2.1 dX1_howManyAheadOf_74 (by decide) ?_
                  exact ih _ _ _ _ h _ _ _ (lv_sub hl [2, 3, 4, 0] rfl) hW K
                · replace h := (if_neg c18).symm.trans h
                  refine lv_iinc (v := x2 + (1 : Int32)) (lv' := [(2, .int (x2 + (1 : Int32))), (4, .int (0 : Int32)), (0, .ref (ad a)), (1, .int p1), (3, .int x3)]) S.1 S.2.1 dX1_howManyAheadOf_68 hl (k := 3) rfl rfl (by decide) rfl (fun ls hl => ?_)
                  refine lv_iinc (v := x3 + (1 : Int32)) (lv' := [(3, .int (x3 + (1 : Int32))), (2, .int (x2 + (1 : Int32))), (4, .int (0 : Int32)), (0, .ref (ad a)), (1, .int p1)]) S.1 S.2.1 dX1_howManyAheadOf_71 hl (k := 4) rfl rfl (by decide) rfl (fun ls hl => ?_)
                  refine lv_goto (tgt := 4) S.1 S.2.1 dX1_howManyAheadOf_74 (by decide) ?_
                  exact ih _ _ _ _ h _ _ _ (lv_sub hl [3, 4, 1, 0] rfl) hW K
            · replace h := (if_neg c14).symm.trans h
              refine lv_iconst (v := (1 : Int32)) S.1 S.2.1 dX1_howManyAheadOf_45 (by decide) ?_
              refine lv_goto (tgt := 50) S.1 S.2.1 dX1_howManyAheadOf_46 (by decide) ?_
              refine lv_istore (lv' := [(4, .int (1 : Int32)), (0, .ref (ad a)), (1, .int p1), (2, .int x2), (3, .int x3)]) S.1 S.2.1 dX1_howManyAheadOf_50 hl (by decide) rfl (fun ls hl => ?_)
              refine lv_aload_n S.1 S.2.1 dX1_howManyAheadOf_52 rfl (lv_at hl 1 rfl) ?_
              refine fl_get S hK iX1 rfl al0 as0 5 (by decide) (hq _ q_29) (fun _ h9 => h9) (fvs_I rfl) hW dX1_howManyAheadOf_53 ?_
              refine lv_iload_n S.1 S.2.1 dX1_howManyAheadOf_56 rfl (lv_at hl 4 rfl) ?_
              obtain ⟨v20, u19, h⟩ := bP_some h
              refine fl_doneP (fl_runSN S (kX6_has l (M.1 a 5) x3 v20 u19) ⟨va_cnB 2 S.2.2.2.2 (gN q_5) rfl rfl rfl (hN.m 13 rfl) (hq _ q_3) (by decide +kernel) ⟨Nat.le_of_ble_eq_true rfl, Nat.le_of_ble_eq_true rfl⟩, (hq _ q_6), trivial⟩ rfl hl.1 rfl (Nat.le_of_ble_eq_true rfl) dX1_howManyAheadOf_57 ⟨Nat.zero_le _, Nat.zero_le _⟩) hW (fun H locs hW => ?_)
              refine lv_if_eq (tgt := 71) S.1 S.2.1 dX1_howManyAheadOf_60 (by decide) (fun c21 => ?_) (fun c21 => ?_)
              · replace h := (if_pos c21).symm.trans h
                refine lv_iinc (v := x3 + (1 : Int32)) (lv' := [(3, .int (x3 + (1 : Int32))), (4, .int (1 : Int32)), (0, .ref (ad a)), (1, .int p1), (2, .int x2)]) S.1 S.2.1 dX1_howManyAheadOf_71 hl (k := 4) rfl rfl (by decide) rfl (fun ls hl => ?_)
                refine lv_goto (tgt := 4) S.1 S.2.1 dX1_howManyAheadOf_74 (by decide) ?_
                exact ih _ _ _ _ h _ _ _ (lv_sub hl [2, 3, 4, 0] rfl) hW K
              · replace h := (if_neg c21).symm.trans h
                refine lv_iload S.1 S.2.1 dX1_howManyAheadOf_63 (lv_at hl 0 rfl) ?_
                refine lv_if_eq (tgt := 71) S.1 S.2.1 dX1_howManyAheadOf_65 (by decide) (fun c22 => ?_) (fun c22 => ?_)
                · replace h := (if_pos c22).symm.trans h
                  refine lv_iinc (v := x3 + (1 : Int32)) (lv' := [(3, .int (x3 + (1 : Int32))), (4, .int (1 : Int32)), (0, .ref (ad a)), (1, .int p1), (2, .int x2)]) S.1 S.2.1 dX1_howManyAheadOf_71 hl (k := 4) rfl rfl (by decide) rfl (fun ls hl => ?_)
                  refine lv_goto (tgt := 4) S.1 S.2.1 dX1_howManyAheadOf_74 (by decide) ?_
                  exact ih _ _ _ _ h _ _ _ (lv_sub hl [2, 3, 4, 0] rfl) hW K
                · replace h := (if_neg c22).symm.trans h
                  refine lv_iinc (v := x2 + (1 : Int32)) (lv' := [(2, .int (x2 + (1 : Int32))), (4, .int (1 : Int32)), (0, .ref (ad a)), (1, .int p1), (3, .int x3)]) S.1 S.2.1 dX1_howManyAheadOf_68 hl (k := 3) rfl rfl (by decide) rfl (fun ls hl => ?_)
                  refine lv_iinc (v := x3 + (1 : Int32)) (lv' := [(3, .int (x3 + (1 : Int32))), (2, .int (x2 + (1 : Int32))), (4, .int (1 : Int32)), (0, .ref (ad a)), (1, .int p1)]) S.1 S.2.1 dX1_howManyAheadOf_71 hl (k := 4) rfl rfl (by decide) rfl (fun ls hl => ?_)
                  refine lv_goto (tgt := 4) S.1 S.2.1 dX1_howManyAheadOf_74 (by decide) ?_
                  exact ih _ _ _ _ h _ _ _ (lv_sub hl [3, 4, 1, 0] rfl) hW K
  obtain ⟨w1, w2, u27, h⟩ := b2_some h
  refine L4 50000 _ _ _ _ u27 _ _ _ (lv_sub hl [2, 3, 1, 0] rfl) hW (fun H locs ls hl hW => ?_)
  clear L4
  refine lv_iload_n S.1 S.2.1 dX1_howManyAheadOf_77 rfl (lv_at hl 2 rfl) ?_
  obtain rfl := s1 h
  exact fl_iret S.1 S.2.1 hr hlocks hW dX1_howManyAheadOf_78
def fX2_remember (b : Nat) (M : Mm) : Option (Mm) :=
  ix (M.1 7 1) 10 (bP (fX1_become (9 + 4 * (M.1 7 1).toNatClampNeg) b M) (fun (M4 : Mm) => lt (wI M4 7 1 (((M4.1 7 1) + (1 : Int32)) - ((M4.1 7 1) + (1 : Int32)) / (10 : Int32) * (10 : Int32))) (fun (M5 : Mm) => lt (wI M5 7 2 (if (10 : Int32) < ((M5.1 7 2) + (1 : Int32)) then (10 : Int32) else ((M5.1 7 2) + (1 : Int32)))) (fun (M7 : Mm) => some M7))))
set_option maxHeartbeats 4000000 in
set_option maxRecDepth 100000 in
theorem kX2_remember (l : Launch) {D : va_G} {cy : Nat → ClassId} {ad : Nat → Nat} (hJ : Inj ad 80) (b : Nat) (hb : isM b = true)  (M : Mm) (M' : Mm) (h : fX2_remember b M = some M') : Met l yX2_remember vX2_remember ({ frames := 2, cells := 0, slots := 0, locals := 85 } : Room) (PcF [.ref (ad 7), .ref (ad b)] D cy ad kdV shC rfC 80 M) (QcV D cy ad kdV shC rfC 80 M') 0 0 (AV ad 80) := by
  refine Met.ofW (cc := cX2_remember) (maxL := 2) (ret := none) (by decide) rfl ?_
  intro p e s m args below meth c s₁ B hml hv
  obtain ⟨rfl, hP, hK, hN⟩ := hv
  have hr := B.returns
  have hlocks := B.notSynchronized
  have S : CallFix p m c cX2_remember 2 s ([.ref (ad 7), .ref (ad b)] : List Value).toArray vX2_remember RX2 := ⟨B.exec, B.bytes, hml, findClass_of_methodNamed B.named, atoms_spec (ws := vX2_remember) B.pre⟩
  have hq : ∀ w ∈ GW, w.before ([.ref (ad 7), .ref (ad b)] : List Value).toArray s = true := fun w h => S.2.2.2.2 w (List.mem_cons_of_mem _ h)
  have hA : ∀ k, k < 80 → AV ad 80 (ad k) := fun k hk => ⟨k, hk, rfl⟩
  have hW : WSt D cy ad kdV shC rfC 80 (AV ad 80) M s.heap s.heap [] := ⟨hP, va_S.rf⟩
  clear hP
  have iX2 : ∀ w ∈ wsX20, w ∈ vX2_remember := fun w h => List.mem_cons_of_mem _ (inX2 w h)
  obtain ⟨⟨bl0, bs0⟩, ⟨bl1, bs1⟩, ⟨bl2, bs2⟩, ⟨bl3, bs3⟩, br0, br1, br2⟩ := isM_ok hb
  have hl := lv_entry ([.ref (ad 7), .ref (ad b)]) (n := 2) (Nat.le_of_ble_eq_true rfl)
  rw [lg_entry_eq]
  generalize (lg_sl ([.ref (ad 7), .ref (ad b)]) ++ List.replicate (2 - (lg_sl ([.ref (ad 7), .ref (ad b)])).length) Slot.unset).toArray = ls at hl ⊢
  have hl : lv_has ls 2 [(0, .ref (ad 7)), (1, .ref (ad b))] := hl
  rw [fX2_remember] at h
  refine lv_aload_n S.1 S.2.1 dX2_remember_0 rfl (lv_at hl 0 rfl) ?_
  refine fl_get S hK iX2 rfl lC_7 sC_7 0 (by decide) (hq _ q_46) (fun _ h9 => h9) (fvs_R rfl rfl) hW dX2_remember_1 ?_
  refine lv_aload_n S.1 S.2.1 dX2_remember_4 rfl (lv_at hl 0 rfl) ?_
  refine fl_get S hK iX2 rfl lC_7 sC_7 1 (by decide) (hq _ q_47) (fun _ h9 => h9) (fvs_I rfl) hW dX2_remember_5 ?_
  obtain ⟨g1, h⟩ := ix_some h
  have t2k : isM (9 + 4 * (M.1 7 1).toNatClampNeg) = true := isM_mom (vp_lt g1)
  obtain ⟨⟨t2l0, t2s0⟩, ⟨t2l1, t2s1⟩, ⟨t2l2, t2s2⟩, ⟨t2l3, t2s3⟩, t2r0, t2r1, t2r2⟩ := isM_ok t2k
  refine fl_rald S hK lC_8 sC_8 g1 (b := 9 + 4 * (M.1 7 1).toNatClampNeg) rfl hW dX2_remember_8 ?_
  refine lv_aload_n S.1 S.2.1 dX2_remember_9 rfl (lv_at hl 1 rfl) ?_
  obtain ⟨M4, u3, h⟩ := bP_some h
  refine fl_doneV (fl_runVN S hK hN (kX1_become l hJ (9 + 4 * (M.1 7 1).toNatClampNeg) t2k b hb M M4 u3) ⟨va_cnB 1 S.2.2.2.2 (gN q_48) rfl rfl rfl (hN.m 21 rfl) (hq _ q_41) (by decide +kernel) ⟨Nat.le_of_ble_eq_true rfl, Nat.le_of_ble_eq_true rfl⟩, (hq _ q_49), (hq _ q_50)⟩ (ci := 1) rfl t2l0 t2s0 rfl hl.1 rfl (Nat.le_of_ble_eq_true rfl) dX2_remember_10 ⟨Nat.zero_le _, Nat.zero_le _⟩ hW) hA hW.2 (fun H locs hW => ?_)
  refine lv_aload_n S.1 S.2.1 dX2_remember_13 rfl (lv_at hl 0 rfl) ?_
  refine lv_aload_n S.1 S.2.1 dX2_remember_14 rfl (lv_at hl 0 rfl) ?_
  refine fl_get S hK iX2 rfl lC_7 sC_7 1 (by decide) (hq _ q_47) (fun _ h9 => h9) (fvs_I rfl) hW dX2_remember_15 ?_
  refine lv_iconst (v := (1 : Int32)) S.1 S.2.1 dX2_remember_18 (by decide) ?_
  refine lv_iadd S.1 S.2.1 dX2_remember_19 ?_
  refine lv_bipush (v := (10 : Int32)) S.1 S.2.1 dX2_remember_20 (by decide) ?_
  refine lv_irem S.1 S.2.1 dX2_remember_22 (by decide) ?_
  refine fl_put S hK hJ hA tyX2 tyX2_ok nmX2 iX2 rfl lC_7 sC_7 1 (by decide) (hq _ q_47) (fun _ h9 => h9) rfl (ty := .int) rfl rfl rfl (wI M4 7 1 (((M4.1 7 1) + (1 : Int32)) - ((M4.1 7 1) + (1 : Int32)) / (10 : Int32) * (10 : Int32))) (by decide) (fvs_setI _ _ _ _ _ _ _ rfl) (fun j _ hj => cof_wI_ne hj) hW dX2_remember_23 (fun H locs hW => ?_)
  obtain ⟨M5, e6, h⟩ := lt_some h
  rw [e6] at hW
  clear e6
  refine lv_aload_n S.1 S.2.1 dX2_remember_26 rfl (lv_at hl 0 rfl) ?_
  refine lv_aload_n S.1 S.2.1 dX2_remember_27 rfl (lv_at hl 0 rfl) ?_
  refine fl_get S hK iX2 rfl lC_7 sC_7 2 (by decide) (hq _ q_51) (fun _ h9 => h9) (fvs_I rfl) hW dX2_remember_28 ?_
  refine lv_iconst (v := (1 : Int32)) S.1 S.2.1 dX2_remember_31 (by decide) ?_
  refine lv_iadd S.1 S.2.1 dX2_remember_32 ?_
  refine lv_bipush (v := (10 : Int32)) S.1 S.2.1 dX2_remember_33 (by decide) ?_
  refine va_mmin S.1 S.2.1 (S.2.2.1.trans hl.1.symm) S.2.2.2.1 (hq _ q_52) (hq _ q_53) (hq _ q_16) (hq _ q_54) (Nat.le_of_ble_eq_true rfl) (Nat.le_of_ble_eq_true rfl) (Nat.zero_le _) (Nat.zero_le _) dX2_remember_35 ?_
  refine fl_put S hK hJ hA tyX2 tyX2_ok nmX2 iX2 rfl lC_7 sC_7 2 (by decide) (hq _ q_51) (fun _ h9 => h9) rfl (ty := .int) rfl rfl rfl (wI M5 7 2 (if (10 : Int32) < ((M5.1 7 2) + (1 : Int32)) then (10 : Int32) else ((M5.1 7 2) + (1 : Int32)))) (by decide) (fvs_setI _ _ _ _ _ _ _ rfl) (fun j _ hj => cof_wI_ne hj) hW dX2_remember_38 (fun H locs hW => ?_)
  obtain ⟨M7, e8, h⟩ := lt_some h
  rw [e8] at hW
  clear e8
  obtain rfl := s1 h
  exact fl_vret S.1 S.2.1 hr hlocks hW dX2_remember_41
def fX2_restore (b : Nat) (M : Mm) : Option (Mm) :=
  lt (wI M 7 1 ((((M.1 7 1) + (10 : Int32)) - (1 : Int32)) - (((M.1 7 1) + (10 : Int32)) - (1 : Int32)) / (10 : Int32) * (10 : Int32))) (fun (M1 : Mm) => lt (wI M1 7 2 ((M1.1 7 2) - (1 : Int32))) (fun (M3 : Mm) => ix (M3.1 7 1) 10 (bP (fX1_become b (9 + 4 * (M3.1 7 1).toNatClampNeg) M3) (fun (M8 : Mm) => some M8))))
set_option maxHeartbeats 4000000 in
set_option maxRecDepth 100000 in
theorem kX2_restore (l : Launch) {D : va_G} {cy : Nat → ClassId} {ad : Nat → Nat} (hJ : Inj ad 80) (b : Nat) (hb : isM b = true)  (M : Mm) (M' : Mm) (h : fX2_restore b M = some M') : Met l yX2_restore vX2_restore ({ frames := 2, cells := 0, slots := 0, locals := 85 } : Room) (PcF [.ref (ad 7), .ref (ad b)] D cy ad kdV shC rfC 80 M) (QcV D cy ad kdV shC rfC 80 M') 0 0 (AV ad 80) := by
  refine Met.ofW (cc := cX2_restore) (maxL := 2) (ret := none) (by decide) rfl ?_
  intro p e s m args below meth c s₁ B hml hv
  obtain ⟨rfl, hP, hK, hN⟩ := hv
  have hr := B.returns
  have hlocks := B.notSynchronized
  have S : CallFix p m c cX2_restore 2 s ([.ref (ad 7), .ref (ad b)] : List Value).toArray vX2_restore RX2 := ⟨B.exec, B.bytes, hml, findClass_of_methodNamed B.named, atoms_spec (ws := vX2_restore) B.pre⟩
  have hq : ∀ w ∈ GW, w.before ([.ref (ad 7), .ref (ad b)] : List Value).toArray s = true := fun w h => S.2.2.2.2 w (List.mem_cons_of_mem _ h)
  have hA : ∀ k, k < 80 → AV ad 80 (ad k) := fun k hk => ⟨k, hk, rfl⟩
  have hW : WSt D cy ad kdV shC rfC 80 (AV ad 80) M s.heap s.heap [] := ⟨hP, va_S.rf⟩
  clear hP
  have iX2 : ∀ w ∈ wsX20, w ∈ vX2_restore := fun w h => List.mem_cons_of_mem _ (inX2 w h)
  obtain ⟨⟨bl0, bs0⟩, ⟨bl1, bs1⟩, ⟨bl2, bs2⟩, ⟨bl3, bs3⟩, br0, br1, br2⟩ := isM_ok hb
  have hl := lv_entry ([.ref (ad 7), .ref (ad b)]) (n := 2) (Nat.le_of_ble_eq_true rfl)
  rw [lg_entry_eq]
  generalize (lg_sl ([.ref (ad 7), .ref (ad b)]) ++ List.replicate (2 - (lg_sl ([.ref (ad 7), .ref (ad b)])).length) Slot.unset).toArray = ls at hl ⊢
  have hl : lv_has ls 2 [(0, .ref (ad 7)), (1, .ref (ad b))] := hl
  rw [fX2_restore] at h
  refine lv_aload_n S.1 S.2.1 dX2_restore_0 rfl (lv_at hl 0 rfl) ?_
  refine lv_aload_n S.1 S.2.1 dX2_restore_1 rfl (lv_at hl 0 rfl) ?_
  refine fl_get S hK iX2 rfl lC_7 sC_7 1 (by decide) (hq _ q_47) (fun _ h9 => h9) (fvs_I rfl) hW dX2_restore_2 ?_
  refine lv_bipush (v := (10 : Int32)) S.1 S.2.1 dX2_restore_5 (by decide) ?_
  refine lv_iadd S.1 S.2.1 dX2_restore_7 ?_
  refine lv_iconst (v := (1 : Int32)) S.1 S.2.1 dX2_restore_8 (by decide) ?_
  refine lv_isub S.1 S.2.1 dX2_restore_9 ?_
  refine lv_bipush (v := (10 : Int32)) S.1 S.2.1 dX2_restore_10 (by decide) ?_
  refine lv_irem S.1 S.2.1 dX2_restore_12 (by decide) ?_
  refine fl_put S hK hJ hA tyX2 tyX2_ok nmX2 iX2 rfl lC_7 sC_7 1 (by decide) (hq _ q_47) (fun _ h9 => h9) rfl (ty := .int) rfl rfl rfl (wI M 7 1 ((((M.1 7 1) + (10 : Int32)) - (1 : Int32)) - (((M.1 7 1) + (10 : Int32)) - (1 : Int32)) / (10 : Int32) * (10 : Int32))) (by decide) (fvs_setI _ _ _ _ _ _ _ rfl) (fun j _ hj => cof_wI_ne hj) hW dX2_restore_13 (fun H locs hW => ?_)
  obtain ⟨M1, e2, h⟩ := lt_some h
  rw [e2] at hW
  clear e2
  refine lv_aload_n S.1 S.2.1 dX2_restore_16 rfl (lv_at hl 0 rfl) ?_
  refine lv_dup S.1 S.2.1 dX2_restore_17 rfl ?_
  refine fl_get S hK iX2 rfl lC_7 sC_7 2 (by decide) (hq _ q_51) (fun _ h9 => h9) (fvs_I rfl) hW dX2_restore_18 ?_
  refine lv_iconst (v := (1 : Int32)) S.1 S.2.1 dX2_restore_21 (by decide) ?_
  refine lv_isub S.1 S.2.1 dX2_restore_22 ?_
  refine fl_put S hK hJ hA tyX2 tyX2_ok nmX2 iX2 rfl lC_7 sC_7 2 (by decide) (hq _ q_51) (fun _ h9 => h9) rfl (ty := .int) rfl rfl rfl (wI M1 7 2 ((M1.1 7 2) - (1 : Int32))) (by decide) (fvs_setI _ _ _ _ _ _ _ rfl) (fun j _ hj => cof_wI_ne hj) hW dX2_restore_23 (fun H locs hW => ?_)
  obtain ⟨M3, e4, h⟩ := lt_some h
  rw [e4] at hW
  clear e4
  refine lv_aload_n S.1 S.2.1 dX2_restore_26 rfl (lv_at hl 1 rfl) ?_
  refine lv_aload_n S.1 S.2.1 dX2_restore_27 rfl (lv_at hl 0 rfl) ?_
  refine fl_get S hK iX2 rfl lC_7 sC_7 0 (by decide) (hq _ q_46) (fun _ h9 => h9) (fvs_R rfl rfl) hW dX2_restore_28 ?_
  refine lv_aload_n S.1 S.2.1 dX2_restore_31 rfl (lv_at hl 0 rfl) ?_
  refine fl_get S hK iX2 rfl lC_7 sC_7 1 (by decide) (hq _ q_47) (fun _ h9 => h9) (fvs_I rfl) hW dX2_restore_32 ?_
  obtain ⟨g5, h⟩ := ix_some h
  have t6k : isM (9 + 4 * (M3.1 7 1).toNatClampNeg) = true := isM_mom (vp_lt g5)
  obtain ⟨⟨t6l0, t6s0⟩, ⟨t6l1, t6s1⟩, ⟨t6l2, t6s2⟩, ⟨t6l3, t6s3⟩, t6r0, t6r1, t6r2⟩ := isM_ok t6k
  refine fl_rald S hK lC_8 sC_8 g5 (b := 9 + 4 * (M3.1 7 1).toNatClampNeg) rfl hW dX2_restore_35 ?_
  obtain ⟨M8, u7, h⟩ := bP_some h
  refine fl_doneV (fl_runVN S hK hN (kX1_become l hJ b hb (9 + 4 * (M3.1 7 1).toNatClampNeg) t6k M3 M8 u7) ⟨va_cnB 1 S.2.2.2.2 (gN q_48) rfl rfl rfl (hN.m 21 rfl) (hq _ q_41) (by decide +kernel) ⟨Nat.le_of_ble_eq_true rfl, Nat.le_of_ble_eq_true rfl⟩, (hq _ q_49), (hq _ q_50)⟩ (ci := 1) rfl bl0 bs0 rfl hl.1 rfl (Nat.le_of_ble_eq_true rfl) dX2_restore_36 ⟨Nat.zero_le _, Nat.zero_le _⟩ hW) hA hW.2 (fun H locs hW => ?_)
  obtain rfl := s1 h
  exact fl_vret S.1 S.2.1 hr hlocks hW dX2_restore_39
def fX3_add (p1 : Int32) (p2 : Int32) (M : Mm) : Option (Mm) :=
  ix (M.1 61 2) 6 (lt (wI M 62 (M.1 61 2).toNatClampNeg p1) (fun (M2 : Mm) => ix (M2.1 61 2) 6 (zb p2 (lt (wI M2 63 (M2.1 61 2).toNatClampNeg p2) (fun (M5 : Mm) => lt (wI M5 61 2 ((M5.1 61 2) + (1 : Int32))) (fun (M8 : Mm) => some M8))))))
set_option maxHeartbeats 4000000 in
set_option maxRecDepth 100000 in
theorem kX3_add (l : Launch) {D : va_G} {cy : Nat → ClassId} {ad : Nat → Nat} (hJ : Inj ad 80)  (p1 : Int32) (p2 : Int32) (M : Mm) (M' : Mm) (h : fX3_add p1 p2 M = some M') : Met l yX3_add vX3_add ({ frames := 0, cells := 0, slots := 0, locals := 0 } : Room) (PcF [.ref (ad 61), .int p1, .int p2] D cy ad kdV shC rfC 80 M) (QcV D cy ad kdV shC rfC 80 M') 0 0 (AV ad 80) := by
  refine Met.ofW (cc := cX3_add) (maxL := 3) (ret := none) (by decide) rfl ?_
  intro p e s m args below meth c s₁ B hml hv
  obtain ⟨rfl, hP, hK, hN⟩ := hv
  have hr := B.returns
  have hlocks := B.notSynchronized
  have S : CallFix p m c cX3_add 3 s ([.ref (ad 61), .int p1, .int p2] : List Value).toArray vX3_add RX3 := ⟨B.exec, B.bytes, hml, findClass_of_methodNamed B.named, atoms_spec (ws := vX3_add) B.pre⟩
  have hq : ∀ w ∈ GW, w.before ([.ref (ad 61), .int p1, .int p2] : List Value).toArray s = true := fun w h => S.2.2.2.2 w (List.mem_cons_of_mem _ h)
  have hA : ∀ k, k < 80 → AV ad 80 (ad k) := fun k hk => ⟨k, hk, rfl⟩
  have hW : WSt D cy ad kdV shC rfC 80 (AV ad 80) M s.heap s.heap [] := ⟨hP, va_S.rf⟩
  clear hP
  have iX3 : ∀ w ∈ wsX30, w ∈ vX3_add := fun w h => List.mem_cons_of_mem _ (inX3 w h)
  have hl := lv_entry ([.ref (ad 61), .int p1, .int p2]) (n := 3) (Nat.le_of_ble_eq_true rfl)
  rw [lg_entry_eq]
  generalize (lg_sl ([.ref (ad 61), .int p1, .int p2]) ++ List.replicate (3 - (lg_sl ([.ref (ad 61), .int p1, .int p2])).length) Slot.unset).toArray = ls at hl ⊢
  have hl : lv_has ls 3 [(0, .ref (ad 61)), (1, .int p1), (2, .int p2)] := hl
  rw [fX3_add] at h
  refine lv_aload_n S.1 S.2.1 dX3_add_0 rfl (lv_at hl 0 rfl) ?_
  refine fl_get S hK iX3 rfl lC_61 sC_61 0 (by decide) (hq _ q_55) (fun _ h9 => h9) (fvs_R rfl rfl) hW dX3_add_1 ?_
  refine lv_aload_n S.1 S.2.1 dX3_add_4 rfl (lv_at hl 0 rfl) ?_
  refine fl_get S hK iX3 rfl lC_61 sC_61 2 (by decide) (hq _ q_56) (fun _ h9 => h9) (fvs_I rfl) hW dX3_add_5 ?_
  refine lv_iload_n S.1 S.2.1 dX3_add_8 rfl (lv_at hl 1 rfl) ?_
  obtain ⟨g1, h⟩ := ix_some h
  refine fl_iast S hK hJ hA lC_62 sC_62 g1 hW dX3_add_9 (fun H locs hW => ?_)
  obtain ⟨M2, e3, h⟩ := lt_some h
  rw [e3] at hW
  clear e3
  refine lv_aload_n S.1 S.2.1 dX3_add_10 rfl (lv_at hl 0 rfl) ?_
  refine fl_get S hK iX3 rfl lC_61 sC_61 1 (by decide) (hq _ q_57) (fun _ h9 => h9) (fvs_R rfl rfl) hW dX3_add_11 ?_
  refine lv_aload_n S.1 S.2.1 dX3_add_14 rfl (lv_at hl 0 rfl) ?_
  refine fl_get S hK iX3 rfl lC_61 sC_61 2 (by decide) (hq _ q_56) (fun _ h9 => h9) (fvs_I rfl) hW dX3_add_15 ?_
  refine lv_iload_n S.1 S.2.1 dX3_add_18 rfl (lv_at hl 2 rfl) ?_
  obtain ⟨g4, h⟩ := ix_some h
  obtain ⟨g6, h⟩ := zb_some h
  refine fl_zast S hK hJ hA lC_63 sC_63 g4 (zb_nar g6) hW dX3_add_19 (fun H locs hW => ?_)
  obtain ⟨M5, e7, h⟩ := lt_some h
  rw [e7] at hW
  clear e7
  refine lv_aload_n S.1 S.2.1 dX3_add_20 rfl (lv_at hl 0 rfl) ?_
  refine lv_dup S.1 S.2.1 dX3_add_21 rfl ?_
  refine fl_get S hK iX3 rfl lC_61 sC_61 2 (by decide) (hq _ q_56) (fun _ h9 => h9) (fvs_I rfl) hW dX3_add_22 ?_
  refine lv_iconst (v := (1 : Int32)) S.1 S.2.1 dX3_add_25 (by decide) ?_
  refine lv_iadd S.1 S.2.1 dX3_add_26 ?_
  refine fl_put S hK hJ hA tyX3 tyX3_ok nmX3 iX3 rfl lC_61 sC_61 2 (by decide) (hq _ q_56) (fun _ h9 => h9) rfl (ty := .int) rfl rfl rfl (wI M5 61 2 ((M5.1 61 2) + (1 : Int32))) (by decide) (fvs_setI _ _ _ _ _ _ _ rfl) (fun j _ hj => cof_wI_ne hj) hW dX3_add_27 (fun H locs hW => ?_)
  obtain ⟨M8, e9, h⟩ := lt_some h
  rw [e9] at hW
  clear e9
  obtain rfl := s1 h
  exact fl_vret S.1 S.2.1 hr hlocks hW dX3_add_30
def fX5_spans (a : Nat) (p1 : Int32) (p2 : Int32) (M : Mm) : Option (Int32) :=
  ix p1 5 (if p2 < (M.1 (a + 2) (p1).toNatClampNeg) then (some (0 : Int32)) else (ix p1 5 (if (M.1 (a + 3) (p1).toNatClampNeg) < p2 then (some (0 : Int32)) else (some (1 : Int32)))))
set_option maxHeartbeats 4000000 in
set_option maxRecDepth 100000 in
theorem kX5_spans (l : Launch) {D : va_G} {cy : Nat → ClassId} {ad : Nat → Nat} (hJ : Inj ad 80) (a : Nat) (ha : isT a = true) (p1 : Int32) (p2 : Int32) (M : Mm) (r : Int32) (h : fX5_spans a p1 p2 M = some r) : Met l yX5_spans vX5_spans ({ frames := 0, cells := 0, slots := 0, locals := 0 } : Room) (PcF [.ref (ad a), .int p1, .int p2] D cy ad kdV shC rfC 80 M) (QcI r D cy ad kdV shC rfC 80 M) 0 0 (AV ad 80) := by
  refine Met.ofW (cc := cX5_spans) (maxL := 3) (ret := (some .boolean)) (by decide) rfl ?_
  intro p e s m args below meth c s₁ B hml hv
  obtain ⟨rfl, hP, hK, hN⟩ := hv
  have hr := B.returns
  have hlocks := B.notSynchronized
  have S : CallFix p m c cX5_spans 3 s ([.ref (ad a), .int p1, .int p2] : List Value).toArray vX5_spans RX5 := ⟨B.exec, B.bytes, hml, findClass_of_methodNamed B.named, atoms_spec (ws := vX5_spans) B.pre⟩
  have hq : ∀ w ∈ GW, w.before ([.ref (ad a), .int p1, .int p2] : List Value).toArray s = true := fun w h => S.2.2.2.2 w (List.mem_cons_of_mem _ h)
  have hA : ∀ k, k < 80 → AV ad 80 (ad k) := fun k hk => ⟨k, hk, rfl⟩
  have hW : WSt D cy ad kdV shC rfC 80 (AV ad 80) M s.heap s.heap [] := ⟨hP, va_S.rf⟩
  clear hP
  have iX5 : ∀ w ∈ wsX50, w ∈ vX5_spans := fun w h => List.mem_cons_of_mem _ (inX5 w h)
  obtain ⟨⟨al0, as0⟩, ⟨al1, as1⟩, ⟨al2, as2⟩, ⟨al3, as3⟩, ar0, ar1, ar2⟩ := isT_ok ha
  have hl := lv_entry ([.ref (ad a), .int p1, .int p2]) (n := 3) (Nat.le_of_ble_eq_true rfl)
  rw [lg_entry_eq]
  generalize (lg_sl ([.ref (ad a), .int p1, .int p2]) ++ List.replicate (3 - (lg_sl ([.ref (ad a), .int p1, .int p2])).length) Slot.unset).toArray = ls at hl ⊢
  have hl : lv_has ls 3 [(0, .ref (ad a)), (1, .int p1), (2, .int p2)] := hl
  rw [fX5_spans] at h
  refine lv_aload_n S.1 S.2.1 dX5_spans_0 rfl (lv_at hl 0 rfl) ?_
  refine fl_get S hK iX5 rfl al0 as0 1 (by decide) (hq _ q_58) (fun _ h9 => h9) (fvs_R rfl ar1) hW dX5_spans_1 ?_
  refine lv_iload_n S.1 S.2.1 dX5_spans_4 rfl (lv_at hl 1 rfl) ?_
  obtain ⟨g1, h⟩ := ix_some h
  refine fl_iald S hK al2 as2 g1 hW dX5_spans_5 ?_
  refine lv_iload_n S.1 S.2.1 dX5_spans_6 rfl (lv_at hl 2 rfl) ?_
  refine lv_icmp_gt (tgt := 24) S.1 S.2.1 dX5_spans_7 (by decide) (fun c2 => ?_) (fun c2 => ?_)
  · replace h := (if_pos c2).symm.trans h
    refine lv_iconst (v := (0 : Int32)) S.1 S.2.1 dX5_spans_24 (by decide) ?_
    obtain rfl := s1 h
    exact fl_zret S.1 S.2.1 hr hlocks (Or.inl rfl) hW dX5_spans_25
  · replace h := (if_neg c2).symm.trans h
    refine lv_iload_n S.1 S.2.1 dX5_spans_10 rfl (lv_at hl 2 rfl) ?_
    refine lv_aload_n S.1 S.2.1 dX5_spans_11 rfl (lv_at hl 0 rfl) ?_
    refine fl_get S hK iX5 rfl al0 as0 2 (by decide) (hq _ q_59) (fun _ h9 => h9) (fvs_R rfl ar2) hW dX5_spans_12 ?_
    refine lv_iload_n S.1 S.2.1 dX5_spans_15 rfl (lv_at hl 1 rfl) ?_
    obtain ⟨g3, h⟩ := ix_some h
    refine fl_iald S hK al3 as3 g3 hW dX5_spans_16 ?_
    refine lv_icmp_gt (tgt := 24) S.1 S.2.1 dX5_spans_17 (by decide) (fun c4 => ?_) (fun c4 => ?_)
    · replace h := (if_pos c4).symm.trans h
      refine lv_iconst (v := (0 : Int32)) S.1 S.2.1 dX5_spans_24 (by decide) ?_
      obtain rfl := s1 h
      exact fl_zret S.1 S.2.1 hr hlocks (Or.inl rfl) hW dX5_spans_25
    · replace h := (if_neg c4).symm.trans h
      refine lv_iconst (v := (1 : Int32)) S.1 S.2.1 dX5_spans_20 (by decide) ?_
      refine lv_goto (tgt := 25) S.1 S.2.1 dX5_spans_21 (by decide) ?_
      obtain rfl := s1 h
      exact fl_zret S.1 S.2.1 hr hlocks (Or.inr rfl) hW dX5_spans_25
def fX3_allows_L2 (b : Nat) (p2 : Int32) (M : Mm) : Nat → Int32 → Option ((Int32) ⊕ (Int32))
  | 0, _ => none
  | n + 1, x3 => if (M.1 61 2) ≤ x3 then (some (.inl x3)) else (ix x3 6 (bP (fX5_spans b (M.1 62 (x3).toNatClampNeg) p2 M) (fun (v5 : Int32) => ix x3 6 (if v5 = (M.1 63 (x3).toNatClampNeg) then (fX3_allows_L2 b p2 M n (x3 + (1 : Int32))) else (some (.inr (0 : Int32)))))))
def fX3_allows (b : Nat) (p2 : Int32) (M : Mm) : Option (Int32) :=
  bS (fX3_allows_L2 b p2 M 50000 (0 : Int32)) (fun o9 => (fun (w1 : Int32) => some (1 : Int32)) o9) (fun o9 => some o9)
set_option maxHeartbeats 4000000 in
set_option maxRecDepth 100000 in
theorem kX3_allows (l : Launch) {D : va_G} {cy : Nat → ClassId} {ad : Nat → Nat} (hJ : Inj ad 80) (b : Nat) (hb : isT b = true) (p2 : Int32) (M : Mm) (r : Int32) (h : fX3_allows b p2 M = some r) : Met l yX3_allows vX3_allows ({ frames := 1, cells := 0, slots := 0, locals := 22 } : Room) (PcF [.ref (ad 61), .ref (ad b), .int p2] D cy ad kdV shC rfC 80 M) (QcI r D cy ad kdV shC rfC 80 M) 0 0 (AV ad 80) := by
  refine Met.ofW (cc := cX3_allows) (maxL := 4) (ret := (some .boolean)) (by decide) rfl ?_
  intro p e s m args below meth c s₁ B hml hv
  obtain ⟨rfl, hP, hK, hN⟩ := hv
  have hr := B.returns
  have hlocks := B.notSynchronized
  have S : CallFix p m c cX3_allows 4 s ([.ref (ad 61), .ref (ad b), .int p2] : List Value).toArray vX3_allows RX3 := ⟨B.exec, B.bytes, hml, findClass_of_methodNamed B.named, atoms_spec (ws := vX3_allows) B.pre⟩
  have hq : ∀ w ∈ GW, w.before ([.ref (ad 61), .ref (ad b), .int p2] : List Value).toArray s = true := fun w h => S.2.2.2.2 w (List.mem_cons_of_mem _ h)
  have hA : ∀ k, k < 80 → AV ad 80 (ad k) := fun k hk => ⟨k, hk, rfl⟩
  have hW : WSt D cy ad kdV shC rfC 80 (AV ad 80) M s.heap s.heap [] := ⟨hP, va_S.rf⟩
  clear hP
  have iX3 : ∀ w ∈ wsX30, w ∈ vX3_allows := fun w h => List.mem_cons_of_mem _ (inX3 w h)
  obtain ⟨⟨bl0, bs0⟩, ⟨bl1, bs1⟩, ⟨bl2, bs2⟩, ⟨bl3, bs3⟩, br0, br1, br2⟩ := isT_ok hb
  have hl := lv_entry ([.ref (ad 61), .ref (ad b), .int p2]) (n := 4) (Nat.le_of_ble_eq_true rfl)
  rw [lg_entry_eq]
  generalize (lg_sl ([.ref (ad 61), .ref (ad b), .int p2]) ++ List.replicate (4 - (lg_sl ([.ref (ad 61), .ref (ad b), .int p2])).length) Slot.unset).toArray = ls at hl ⊢
  have hl : lv_has ls 4 [(0, .ref (ad 61)), (1, .ref (ad b)), (2, .int p2)] := hl
  rw [fX3_allows] at h
  refine lv_iconst (v := (0 : Int32)) S.1 S.2.1 dX3_allows_0 (by decide) ?_
  refine lv_istore_n (lv' := [(3, .int (0 : Int32)), (0, .ref (ad 61)), (1, .ref (ad b)), (2, .int p2)]) S.1 S.2.1 dX3_allows_1 rfl hl (by decide) rfl (fun ls hl => ?_)
  have L2 : ∀ (n : Nat) (x3 : Int32) (o : (Int32) ⊕ (Int32)), fX3_allows_L2 b p2 M n x3 = some o → ∀ (H : Heap) (locs : List Loc) (ls : Array Slot), lv_has ls 4 [(0, .ref (ad 61)), (1, .ref (ad b)), (2, .int p2), (3, .int x3)] → WSt D cy ad kdV shC rfC 80 (AV ad 80) M s.heap H locs → (∀ (w1 : Int32), o = .inl w1 → ∀ (H : Heap) (locs : List Loc) (ls : Array Slot), lv_has ls 4 [(0, .ref (ad 61)), (1, .ref (ad b)), (2, .int p2), (3, .int w1)] → WSt D cy ad kdV shC rfC 80 (AV ad 80) M s.heap H locs → W p l e (headSpec vX3_allows ({ frames := 1, cells := 0, slots := 0, locals := 22 } : Room)).room s m ([.ref (ad 61), .ref (ad b), .int p2] : List Value).toArray below meth c H locs 0 0 (MQ below (QcI r D cy ad kdV shC rfC 80 M) ([.ref (ad 61), .ref (ad b), .int p2] : List Value).toArray s 0 0 (AV ad 80)) (F0 m 38 ls [])) → (∀ (rr : Int32), o = .inr rr → (rr = 0 ∨ rr = 1) → ∀ (H : Heap) (locs : List Loc) (ls : Array Slot) (pc : Nat), WSt D cy ad kdV shC rfC 80 (AV ad 80) M s.heap H locs → decode cX3_allows pc = .ok (.ireturn, 1) → W p l e (headSpec vX3_allows ({ frames := 1, cells := 0, slots := 0, locals := 22 } : Room)).room s m ([.ref (ad 61), .ref (ad b), .int p2] : List Value).toArray below meth c H locs 0 0 (MQ below (QcI r D cy ad kdV shC rfC 80 M) ([.ref (ad 61), .ref (ad b), .int p2] : List Value).toArray s 0 0 (AV ad 80)) (F0 m pc ls [.int rr])) → W p l e (headSpec vX3_allows ({ frames := 1, cells := 0, slots := 0, locals := 22 } : Room)).room s m ([.ref (ad 61), .ref (ad b), .int p2] : List Value).toArray below meth c H locs 0 0 (MQ below (QcI r D cy ad kdV shC rfC 80 M) ([.ref (ad 61), .ref (ad b), .int p2] : List Value).toArray s 0 0 (AV ad 80)) (F0 m 2 ls []) := by
    intro n
    induction n with
    | zero => intro x3 o h; cases h
    | succ n ih =>
      intro x3 o h H locs ls hl hW K K2
      rw [fX3_allows_L2] at h
      refine lv_iload_n S.1 S.2.1 dX3_allows_2 rfl (lv_at hl 3 rfl) ?_
      refine lv_aload_n S.1 S.2.1 dX3_allows_3 rfl (lv_at hl 0 rfl) ?_
      refine fl_get S hK iX3 rfl lC_61 sC_61 2 (by decide) (hq _ q_56) (fun _ h9 => h9) (fvs_I rfl) hW dX3_allows_4 ?_
      refine lv_icmp_ge (tgt := 38) S.1 S.2.1 dX3_allows_7 (by decide) (fun c2 => ?_) (fun c2 => ?_)
      · replace h := (if_pos c2).symm.trans h
        exact K _ (Option.some.inj h).symm _ _ _ hl hW
      · replace h := (if_neg c2).symm.trans h
        refine lv_aload_n S.1 S.2.1 dX3_allows_10 rfl (lv_at hl 1 rfl) ?_
        refine lv_aload_n S.1 S.2.1 dX3_allows_11 rfl (lv_at hl 0 rfl) ?_
        refine fl_get S hK iX3 rfl lC_61 sC_61 0 (by decide) (hq _ q_55) (fun _ h9 => h9) (fvs_R rfl rfl) hW dX3_allows_12 ?_
        refine lv_iload_n S.1 S.2.1 dX3_allows_15 rfl (lv_at hl 3 rfl) ?_
        obtain ⟨g3, h⟩ := ix_some h
        refine fl_iald S hK lC_62 sC_62 g3 hW dX3_allows_16 ?_
        refine lv_iload_n S.1 S.2.1 dX3_allows_17 rfl (lv_at hl 2 rfl) ?_
        obtain ⟨v5, u4, h⟩ := bP_some h
        refine fl_doneI (fl_runVN S hK hN (kX5_spans l hJ b hb (M.1 62 (x3).toNatClampNeg) p2 M v5 u4) ⟨va_cnB 2 S.2.2.2.2 (gN q_60) rfl rfl rfl (hN.m 32 rfl) (hq _ q_61) (by decide +kernel) ⟨Nat.le_of_ble_eq_true rfl, Nat.le_of_ble_eq_true rfl⟩, (hq _ q_62), (hq _ q_63)⟩ (ci := 5) rfl bl0 bs0 rfl hl.1 rfl (Nat.le_of_ble_eq_true rfl) dX3_allows_18 ⟨Nat.zero_le _, Nat.zero_le _⟩ hW) hA hW.2 (fun H locs hW => ?_)
        refine lv_aload_n S.1 S.2.1 dX3_allows_21 rfl (lv_at hl 0 rfl) ?_
        refine fl_get S hK iX3 rfl lC_61 sC_61 1 (by decide) (hq _ q_57) (fun _ h9 => h9) (fvs_R rfl rfl) hW dX3_allows_22 ?_
        refine lv_iload_n S.1 S.2.1 dX3_allows_25 rfl (lv_at hl 3 rfl) ?_
        obtain ⟨g6, h⟩ := ix_some h
        refine fl_zald S hK lC_63 sC_63 g6 hW dX3_allows_26 ?_
        refine lv_icmp_eq (tgt := 32) S.1 S.2.1 dX3_allows_27 (by decide) (fun c7 => ?_) (fun c7 => ?_)
        · replace h := (if_pos c7).symm.trans h
          refine lv_iinc (v := x3 + (1 : Int32)) (lv' := [(3, .int (x3 + (1 : Int32))), (0, .ref (ad 61)), (1, .ref (ad b)), (2, .int p2)]) S.1 S.2.1 dX3_allows_32 hl (k := 3) rfl rfl (by decide) rfl (fun ls hl => ?_)
          refine lv_goto (tgt := 2) S.1 S.2.1 dX3_allows_35 (by decide) ?_
          exact ih _ _ h _ _ _ (lv_sub hl [1, 2, 3, 0] rfl) hW K K2
        · replace h := (if_neg c7).symm.trans h
          refine lv_iconst (v := (0 : Int32)) S.1 S.2.1 dX3_allows_30 (by decide) ?_
          exact K2 _ (Option.some.inj h).symm (Or.inl rfl) _ _ _ _ hW dX3_allows_31
  rcases bS_some h with ⟨o9, u8, h⟩ | ⟨o9, u8, h⟩
  · obtain ⟨w1, rfl⟩ : ∃ z, z = o9 := ⟨_, rfl⟩
    refine L2 50000 _ _ u8 _ _ _ (lv_sub hl [1, 2, 3, 0] rfl) hW (fun w1z e H locs ls hl hW => ?_) (fun rr e => by cases e)
    cases e
    refine lv_iconst (v := (1 : Int32)) S.1 S.2.1 dX3_allows_38 (by decide) ?_
    obtain rfl := s1 h
    exact fl_zret S.1 S.2.1 hr hlocks (Or.inr rfl) hW dX3_allows_39
  · refine L2 50000 _ _ u8 _ _ _ (lv_sub hl [1, 2, 3, 0] rfl) hW (fun _ e => by cases e) (fun rr e hz H locs ls pc hW hd => ?_)
    cases e
    obtain rfl := s1 h
    exact fl_zret S.1 S.2.1 hr hlocks hz hW hd
def fX5_tellNothing (a : Nat) (M : Mm) : Option (Mm) :=
  lt (wI M a 3 (0 : Int32)) (fun (M1 : Mm) => lt (wI M1 a 4 (0 : Int32)) (fun (M3 : Mm) => lt (wI M3 a 5 (3 : Int32)) (fun (M5 : Mm) => lt (wI M5 a 6 (0 : Int32)) (fun (M7 : Mm) => lt (wI M7 a 7 (70 : Int32)) (fun (M9 : Mm) => some M9)))))
set_option maxHeartbeats 4000000 in
set_option maxRecDepth 100000 in
theorem kX5_tellNothing (l : Launch) {D : va_G} {cy : Nat → ClassId} {ad : Nat → Nat} (hJ : Inj ad 80) (a : Nat) (ha : isT a = true)  (M : Mm) (M' : Mm) (h : fX5_tellNothing a M = some M') : Met l yX5_tellNothing vX5_tellNothing ({ frames := 0, cells := 0, slots := 0, locals := 0 } : Room) (PcF [.ref (ad a)] D cy ad kdV shC rfC 80 M) (QcV D cy ad kdV shC rfC 80 M') 0 0 (AV ad 80) := by
  refine Met.ofW (cc := cX5_tellNothing) (maxL := 1) (ret := none) (by decide) rfl ?_
  intro p e s m args below meth c s₁ B hml hv
  obtain ⟨rfl, hP, hK, hN⟩ := hv
  have hr := B.returns
  have hlocks := B.notSynchronized
  have S : CallFix p m c cX5_tellNothing 1 s ([.ref (ad a)] : List Value).toArray vX5_tellNothing RX5 := ⟨B.exec, B.bytes, hml, findClass_of_methodNamed B.named, atoms_spec (ws := vX5_tellNothing) B.pre⟩
  have hq : ∀ w ∈ GW, w.before ([.ref (ad a)] : List Value).toArray s = true := fun w h => S.2.2.2.2 w (List.mem_cons_of_mem _ h)
  have hA : ∀ k, k < 80 → AV ad 80 (ad k) := fun k hk => ⟨k, hk, rfl⟩
  have hW : WSt D cy ad kdV shC rfC 80 (AV ad 80) M s.heap s.heap [] := ⟨hP, va_S.rf⟩
  clear hP
  have iX5 : ∀ w ∈ wsX50, w ∈ vX5_tellNothing := fun w h => List.mem_cons_of_mem _ (inX5 w h)
  obtain ⟨⟨al0, as0⟩, ⟨al1, as1⟩, ⟨al2, as2⟩, ⟨al3, as3⟩, ar0, ar1, ar2⟩ := isT_ok ha
  have hl := lv_entry ([.ref (ad a)]) (n := 1) (Nat.le_of_ble_eq_true rfl)
  rw [lg_entry_eq]
  generalize (lg_sl ([.ref (ad a)]) ++ List.replicate (1 - (lg_sl ([.ref (ad a)])).length) Slot.unset).toArray = ls at hl ⊢
  have hl : lv_has ls 1 [(0, .ref (ad a))] := hl
  rw [fX5_tellNothing] at h
  refine lv_aload_n S.1 S.2.1 dX5_tellNothing_0 rfl (lv_at hl 0 rfl) ?_
  refine lv_iconst (v := (0 : Int32)) S.1 S.2.1 dX5_tellNothing_1 (by decide) ?_
  refine fl_put S hK hJ hA tyX5 tyX5_ok nmX5 iX5 rfl al0 as0 3 (by decide) (hq _ q_66) (fun _ h9 => h9) rfl (ty := .int) rfl rfl rfl (wI M a 3 (0 : Int32)) (by decide) (fvs_setI _ _ _ _ _ _ _ rfl) (fun j _ hj => cof_wI_ne hj) hW dX5_tellNothing_2 (fun H locs hW => ?_)
  obtain ⟨M1, e2, h⟩ := lt_some h
  rw [e2] at hW
  clear e2
  refine lv_aload_n S.1 S.2.1 dX5_tellNothing_5 rfl (lv_at hl 0 rfl) ?_
  refine lv_iconst (v := (0 : Int32)) S.1 S.2.1 dX5_tellNothing_6 (by decide) ?_
  refine fl_put S hK hJ hA tyX5 tyX5_ok nmX5 iX5 rfl al0 as0 4 (by decide) (hq _ q_67) (fun _ h9 => h9) rfl (ty := .int) rfl rfl rfl (wI M1 a 4 (0 : Int32)) (by decide) (fvs_setI _ _ _ _ _ _ _ rfl) (fun j _ hj => cof_wI_ne hj) hW dX5_tellNothing_7 (fun H locs hW => ?_)
  obtain ⟨M3, e4, h⟩ := lt_some h
  rw [e4] at hW
  clear e4
  refine lv_aload_n S.1 S.2.1 dX5_tellNothing_10 rfl (lv_at hl 0 rfl) ?_
  refine lv_iconst (v := (3 : Int32)) S.1 S.2.1 dX5_tellNothing_11 (by decide) ?_
  refine fl_put S hK hJ hA tyX5 tyX5_ok nmX5 iX5 rfl al0 as0 5 (by decide) (hq _ q_68) (fun _ h9 => h9) rfl (ty := .int) rfl rfl rfl (wI M3 a 5 (3 : Int32)) (by decide) (fvs_setI _ _ _ _ _ _ _ rfl) (fun j _ hj => cof_wI_ne hj) hW dX5_tellNothing_12 (fun H locs hW => ?_)
  obtain ⟨M5, e6, h⟩ := lt_some h
  rw [e6] at hW
  clear e6
  refine lv_aload_n S.1 S.2.1 dX5_tellNothing_15 rfl (lv_at hl 0 rfl) ?_
  refine lv_iconst (v := (0 : Int32)) S.1 S.2.1 dX5_tellNothing_16 (by decide) ?_
  refine fl_put S hK hJ hA tyX5 tyX5_ok nmX5 iX5 rfl al0 as0 6 (by decide) (hq _ q_69) (fun _ h9 => h9) rfl (ty := .int) rfl rfl rfl (wI M5 a 6 (0 : Int32)) (by decide) (fvs_setI _ _ _ _ _ _ _ rfl) (fun j _ hj => cof_wI_ne hj) hW dX5_tellNothing_17 (fun H locs hW => ?_)
  obtain ⟨M7, e8, h⟩ := lt_some h
  rw [e8] at hW
  clear e8
  refine lv_aload_n S.1 S.2.1 dX5_tellNothing_20 rfl (lv_at hl 0 rfl) ?_
  refine lv_bipush (v := (70 : Int32)) S.1 S.2.1 dX5_tellNothing_21 (by decide) ?_
  refine fl_put S hK hJ hA tyX5 tyX5_ok nmX5 iX5 rfl al0 as0 7 (by decide) (hq _ q_70) (fun _ h9 => h9) rfl (ty := .int) rfl rfl rfl (wI M7 a 7 (70 : Int32)) (by decide) (fvs_setI _ _ _ _ _ _ _ rfl) (fun j _ hj => cof_wI_ne hj) hW dX5_tellNothing_23 (fun H locs hW => ?_)
  obtain ⟨M9, e10, h⟩ := lt_some h
  rw [e10] at hW
  clear e10
  obtain rfl := s1 h
  exact fl_vret S.1 S.2.1 hr hlocks hW dX5_tellNothing_26
def fX5_does (a : Nat) (p1 : Int32) (p2 : Int32) (M : Mm) : Option (Int32) :=
  if (M.1 a 7) ≤ p2 then (some (0 : Int32)) else (bP (fX5_spans a p1 p2 M) (fun (v3 : Int32) => if v3 = 0 then (some (0 : Int32)) else (some (1 : Int32))))
set_option maxHeartbeats 4000000 in
set_option maxRecDepth 100000 in
theorem kX5_does (l : Launch) {D : va_G} {cy : Nat → ClassId} {ad : Nat → Nat} (hJ : Inj ad 80) (a : Nat) (ha : isT a = true) (p1 : Int32) (p2 : Int32) (M : Mm) (r : Int32) (h : fX5_does a p1 p2 M = some r) : Met l yX5_does vX5_does ({ frames := 1, cells := 0, slots := 0, locals := 22 } : Room) (PcF [.ref (ad a), .int p1, .int p2] D cy ad kdV shC rfC 80 M) (QcI r D cy ad kdV shC rfC 80 M) 0 0 (AV ad 80) := by
  refine Met.ofW (cc := cX5_does) (maxL := 3) (ret := (some .boolean)) (by decide) rfl ?_
  intro p e s m args below meth c s₁ B hml hv
  obtain ⟨rfl, hP, hK, hN⟩ := hv
  have hr := B.returns
  have hlocks := B.notSynchronized
  have S : CallFix p m c cX5_does 3 s ([.ref (ad a), .int p1, .int p2] : List Value).toArray vX5_does RX5 := ⟨B.exec, B.bytes, hml, findClass_of_methodNamed B.named, atoms_spec (ws := vX5_does) B.pre⟩
  have hq : ∀ w ∈ GW, w.before ([.ref (ad a), .int p1, .int p2] : List Value).toArray s = true := fun w h => S.2.2.2.2 w (List.mem_cons_of_mem _ h)
  have hA : ∀ k, k < 80 → AV ad 80 (ad k) := fun k hk => ⟨k, hk, rfl⟩
  have hW : WSt D cy ad kdV shC rfC 80 (AV ad 80) M s.heap s.heap [] := ⟨hP, va_S.rf⟩
  clear hP
  have iX5 : ∀ w ∈ wsX50, w ∈ vX5_does := fun w h => List.mem_cons_of_mem _ (inX5 w h)
  obtain ⟨⟨al0, as0⟩, ⟨al1, as1⟩, ⟨al2, as2⟩, ⟨al3, as3⟩, ar0, ar1, ar2⟩ := isT_ok ha
  have hl := lv_entry ([.ref (ad a), .int p1, .int p2]) (n := 3) (Nat.le_of_ble_eq_true rfl)
  rw [lg_entry_eq]
  generalize (lg_sl ([.ref (ad a), .int p1, .int p2]) ++ List.replicate (3 - (lg_sl ([.ref (ad a), .int p1, .int p2])).length) Slot.unset).toArray = ls at hl ⊢
  have hl : lv_has ls 3 [(0, .ref (ad a)), (1, .int p1), (2, .int p2)] := hl
  rw [fX5_does] at h
  refine lv_iload_n S.1 S.2.1 dX5_does_0 rfl (lv_at hl 2 rfl) ?_
  refine lv_aload_n S.1 S.2.1 dX5_does_1 rfl (lv_at hl 0 rfl) ?_
  refine fl_get S hK iX5 rfl al0 as0 7 (by decide) (hq _ q_70) (fun _ h9 => h9) (fvs_I rfl) hW dX5_does_2 ?_
  refine lv_icmp_ge (tgt := 21) S.1 S.2.1 dX5_does_5 (by decide) (fun c1 => ?_) (fun c1 => ?_)
  · replace h := (if_pos c1).symm.trans h
    refine lv_iconst (v := (0 : Int32)) S.1 S.2.1 dX5_does_21 (by decide) ?_
    obtain rfl := s1 h
    exact fl_zret S.1 S.2.1 hr hlocks (Or.inl rfl) hW dX5_does_22
  · replace h := (if_neg c1).symm.trans h
    refine lv_aload_n S.1 S.2.1 dX5_does_8 rfl (lv_at hl 0 rfl) ?_
    refine lv_iload_n S.1 S.2.1 dX5_does_9 rfl (lv_at hl 1 rfl) ?_
    refine lv_iload_n S.1 S.2.1 dX5_does_10 rfl (lv_at hl 2 rfl) ?_
    obtain ⟨v3, u2, h⟩ := bP_some h
    refine fl_doneI (fl_runV S hK hN (kX5_spans l hJ a ha p1 p2 M v3 u2) (cwV 2 S.2.2.2.2 (gV q_121 q_62 q_63 q_61 q_60) rfl rfl rfl (by decide +kernel) ⟨Nat.le_of_ble_eq_true rfl, Nat.le_of_ble_eq_true rfl⟩) (ci := 5) rfl al0 as0 rfl hl.1 rfl (Nat.le_of_ble_eq_true rfl) dX5_does_11 ⟨Nat.zero_le _, Nat.zero_le _⟩ hW) hA hW.2 (fun H locs hW => ?_)
    refine lv_if_eq (tgt := 21) S.1 S.2.1 dX5_does_14 (by decide) (fun c4 => ?_) (fun c4 => ?_)
    · replace h := (if_pos c4).symm.trans h
      refine lv_iconst (v := (0 : Int32)) S.1 S.2.1 dX5_does_21 (by decide) ?_
      obtain rfl := s1 h
      exact fl_zret S.1 S.2.1 hr hlocks (Or.inl rfl) hW dX5_does_22
    · replace h := (if_neg c4).symm.trans h
      refine lv_iconst (v := (1 : Int32)) S.1 S.2.1 dX5_does_17 (by decide) ?_
      refine lv_goto (tgt := 22) S.1 S.2.1 dX5_does_18 (by decide) ?_
      obtain rfl := s1 h
      exact fl_zret S.1 S.2.1 hr hlocks (Or.inr rfl) hW dX5_does_22
def fX5_worksAt_L4 (a : Nat) (p1 : Int32) (M : Mm) : Nat → Int32 → Int32 → Option (Int32 × Int32)
  | 0, _, _ => none
  | n + 1, x2, x3 => if (M.1 a 6) ≤ x3 then (some (x2, x3)) else (bP (fX5_does a x3 p1 M) (fun (v5 : Int32) => if v5 = 0 then (fX5_worksAt_L4 a p1 M n x2 (x3 + (1 : Int32))) else (bP (fX6_bit x3) (fun (v8 : Int32) => fX5_worksAt_L4 a p1 M n (x2 ||| v8) (x3 + (1 : Int32))))))
def fX5_worksAt (a : Nat) (p1 : Int32) (M : Mm) : Option (Int32) :=
  b2 (fX5_worksAt_L4 a p1 M 50000 (0 : Int32) (0 : Int32)) (fun (w1 : Int32) (w2 : Int32) => some w1)
set_option maxHeartbeats 4000000 in
set_option maxRecDepth 100000 in
theorem kX5_worksAt (l : Launch) {D : va_G} {cy : Nat → ClassId} {ad : Nat → Nat} (hJ : Inj ad 80) (a : Nat) (ha : isT a = true) (p1 : Int32) (M : Mm) (r : Int32) (h : fX5_worksAt a p1 M = some r) : Met l yX5_worksAt vX5_worksAt ({ frames := 2, cells := 0, slots := 0, locals := 44 } : Room) (PcF [.ref (ad a), .int p1] D cy ad kdV shC rfC 80 M) (QcI r D cy ad kdV shC rfC 80 M) 0 0 (AV ad 80) := by
  refine Met.ofW (cc := cX5_worksAt) (maxL := 4) (ret := (some .int)) (by decide) rfl ?_
  intro p e s m args below meth c s₁ B hml hv
  obtain ⟨rfl, hP, hK, hN⟩ := hv
  have hr := B.returns
  have hlocks := B.notSynchronized
  have S : CallFix p m c cX5_worksAt 4 s ([.ref (ad a), .int p1] : List Value).toArray vX5_worksAt RX5 := ⟨B.exec, B.bytes, hml, findClass_of_methodNamed B.named, atoms_spec (ws := vX5_worksAt) B.pre⟩
  have hq : ∀ w ∈ GW, w.before ([.ref (ad a), .int p1] : List Value).toArray s = true := fun w h => S.2.2.2.2 w (List.mem_cons_of_mem _ h)
  have hA : ∀ k, k < 80 → AV ad 80 (ad k) := fun k hk => ⟨k, hk, rfl⟩
  have hW : WSt D cy ad kdV shC rfC 80 (AV ad 80) M s.heap s.heap [] := ⟨hP, va_S.rf⟩
  clear hP
  have iX5 : ∀ w ∈ wsX50, w ∈ vX5_worksAt := fun w h => List.mem_cons_of_mem _ (inX5 w h)
  obtain ⟨⟨al0, as0⟩, ⟨al1, as1⟩, ⟨al2, as2⟩, ⟨al3, as3⟩, ar0, ar1, ar2⟩ := isT_ok ha
  have hl := lv_entry ([.ref (ad a), .int p1]) (n := 4) (Nat.le_of_ble_eq_true rfl)
  rw [lg_entry_eq]
  generalize (lg_sl ([.ref (ad a), .int p1]) ++ List.replicate (4 - (lg_sl ([.ref (ad a), .int p1])).length) Slot.unset).toArray = ls at hl ⊢
  have hl : lv_has ls 4 [(0, .ref (ad a)), (1, .int p1)] := hl
  rw [fX5_worksAt] at h
  refine lv_iconst (v := (0 : Int32)) S.1 S.2.1 dX5_worksAt_0 (by decide) ?_
  refine lv_istore_n (lv' := [(2, .int (0 : Int32)), (0, .ref (ad a)), (1, .int p1)]) S.1 S.2.1 dX5_worksAt_1 rfl hl (by decide) rfl (fun ls hl => ?_)
  refine lv_iconst (v := (0 : Int32)) S.1 S.2.1 dX5_worksAt_2 (by decide) ?_
  refine lv_istore_n (lv' := [(3, .int (0 : Int32)), (2, .int (0 : Int32)), (0, .ref (ad a)), (1, .int p1)]) S.1 S.2.1 dX5_worksAt_3 rfl hl (by decide) rfl (fun ls hl => ?_)
  have L4 : ∀ (n : Nat) (x2 : Int32) (x3 : Int32) (w1 : Int32) (w2 : Int32), fX5_worksAt_L4 a p1 M n x2 x3 = some (w1, w2) → ∀ (H : Heap) (locs : List Loc) (ls : Array Slot), lv_has ls 4 [(0, .ref (ad a)), (1, .int p1), (2, .int x2), (3, .int x3)] → WSt D cy ad kdV shC rfC 80 (AV ad 80) M s.heap H locs → (∀ (H : Heap) (locs : List Loc) (ls : Array Slot), lv_has ls 4 [(0, .ref (ad a)), (1, .int p1), (2, .int w1), (3, .int w2)] → WSt D cy ad kdV shC rfC 80 (AV ad 80) M s.heap H locs → W p l e (headSpec vX5_worksAt ({ frames := 2, cells := 0, slots := 0, locals := 44 } : Room)).room s m ([.ref (ad a), .int p1] : List Value).toArray below meth c H locs 0 0 (MQ below (QcI r D cy ad kdV shC rfC 80 M) ([.ref (ad a), .int p1] : List Value).toArray s 0 0 (AV ad 80)) (F0 m 34 ls [])) → W p l e (headSpec vX5_worksAt ({ frames := 2, cells := 0, slots := 0, locals := 44 } : Room)).room s m ([.ref (ad a), .int p1] : List Value).toArray below meth c H locs 0 0 (MQ below (QcI r D cy ad kdV shC rfC 80 M) ([.ref (ad a), .int p1] : List Value).toArray s 0 0 (AV ad 80)) (F0 m 4 ls []) := by
    intro n
    induction n with
    | zero => intro x2 x3 w1 w2 h; cases h
    | succ n ih =>
      intro x2 x3 w1 w2 h H locs ls hl hW K
      rw [fX5_worksAt_L4] at h
      refine lv_iload_n S.1 S.2.1 dX5_worksAt_4 rfl (lv_at hl 3 rfl) ?_
      refine lv_aload_n S.1 S.2.1 dX5_worksAt_5 rfl (lv_at hl 0 rfl) ?_
      refine fl_get S hK iX5 rfl al0 as0 6 (by decide) (hq _ q_69) (fun _ h9 => h9) (fvs_I rfl) hW dX5_worksAt_6 ?_
      refine lv_icmp_ge (tgt := 34) S.1 S.2.1 dX5_worksAt_9 (by decide) (fun c3 => ?_) (fun c3 => ?_)
      · replace h := (if_pos c3).symm.trans h
        obtain ⟨rfl, rfl⟩ := s2 h
        exact K _ _ _ hl hW
      · replace h := (if_neg c3).symm.trans h
        refine lv_aload_n S.1 S.2.1 dX5_worksAt_12 rfl (lv_at hl 0 rfl) ?_
        refine lv_iload_n S.1 S.2.1 dX5_worksAt_13 rfl (lv_at hl 3 rfl) ?_
        refine lv_iload_n S.1 S.2.1 dX5_worksAt_14 rfl (lv_at hl 1 rfl) ?_
        obtain ⟨v5, u4, h⟩ := bP_some h
        refine fl_doneI (fl_runV S hK hN (kX5_does l hJ a ha x3 p1 M v5 u4) (cwV 2 S.2.2.2.2 (gV q_123 q_124 q_125 q_61 q_122) rfl rfl rfl (by decide +kernel) ⟨Nat.le_of_ble_eq_true rfl, Nat.le_of_ble_eq_true rfl⟩) (ci := 5) rfl al0 as0 rfl hl.1 rfl (Nat.le_of_ble_eq_true rfl) dX5_worksAt_15 ⟨Nat.zero_le _, Nat.zero_le _⟩ hW) hA hW.2 (fun H locs hW => ?_)
        refine lv_if_eq (tgt := 28) S.1 S.2.1 dX5_worksAt_18 (by decide) (fun c6 => ?_) (fun c6 => ?_)
        · replace h := (if_pos c6).symm.trans h
          refine lv_iinc (v := x3 + (1 : Int32)) (lv' := [(3, .int (x3 + (1 : Int32))), (0, .ref (ad a)), (1, .int p1), (2, .int x2)]) S.1 S.2.1 dX5_worksAt_28 hl (k := 3) rfl rfl (by decide) rfl (fun ls hl => ?_)
          refine lv_goto (tgt := 4) S.1 S.2.1 dX5_worksAt_31 (by decide) ?_
          exact ih _ _ _ _ h _ _ _ (lv_sub hl [1, 2, 3, 0] rfl) hW K
        · replace h := (if_neg c6).symm.trans h
          refine lv_iload_n S.1 S.2.1 dX5_worksAt_21 rfl (lv_at hl 2 rfl) ?_
          refine lv_iload_n S.1 S.2.1 dX5_worksAt_22 rfl (lv_at hl 3 rfl) ?_
          obtain ⟨v8, u7, h⟩ := bP_some h
          refine fl_doneP (fl_runSN S (kX6_bit l x3 v8 u7) ⟨va_cnB 1 S.2.2.2.2 (gN q_0) rfl rfl rfl (hN.m 15 rfl) (hq _ q_3) (by decide +kernel) ⟨Nat.le_of_ble_eq_true rfl, Nat.le_of_ble_eq_true rfl⟩, (hq _ q_2), trivial⟩ rfl hl.1 rfl (Nat.le_of_ble_eq_true rfl) dX5_worksAt_23 ⟨Nat.zero_le _, Nat.zero_le _⟩) hW (fun H locs hW => ?_)
          refine lv_ior S.1 S.2.1 dX5_worksAt_26 ?_
          refine lv_istore_n (lv' := [(2, .int (x2 ||| v8)), (0, .ref (ad a)), (1, .int p1), (3, .int x3)]) S.1 S.2.1 dX5_worksAt_27 rfl hl (by decide) rfl (fun ls hl => ?_)
          refine lv_iinc (v := x3 + (1 : Int32)) (lv' := [(3, .int (x3 + (1 : Int32))), (2, .int (x2 ||| v8)), (0, .ref (ad a)), (1, .int p1)]) S.1 S.2.1 dX5_worksAt_28 hl (k := 3) rfl rfl (by decide) rfl (fun ls hl => ?_)
          refine lv_goto (tgt := 4) S.1 S.2.1 dX5_worksAt_31 (by decide) ?_
          exact ih _ _ _ _ h _ _ _ (lv_sub hl [2, 3, 1, 0] rfl) hW K
  obtain ⟨w1, w2, u9, h⟩ := b2_some h
  refine L4 50000 _ _ _ _ u9 _ _ _ (lv_sub hl [2, 3, 1, 0] rfl) hW (fun H locs ls hl hW => ?_)
  clear L4
  refine lv_iload_n S.1 S.2.1 dX5_worksAt_34 rfl (lv_at hl 2 rfl) ?_
  obtain rfl := s1 h
  exact fl_iret S.1 S.2.1 hr hlocks hW dX5_worksAt_35

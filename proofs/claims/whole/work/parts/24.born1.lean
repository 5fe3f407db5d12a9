def fX6_fills (p1 : Int32) (M : Mm) : Option (Int32 × Mm) :=
  bP (fX6_isMother p1 M) (fun (v2 : Int32) => if v2 = 0 then (some ((-1 : Int32), M)) else (b2 (fX6_mostFilled M) (fun (v5 : Int32) (M6 : Mm) => bP (fX0_workOf p1 M6) (fun (v8 : Int32) => some (v8, M6)))))
set_option maxHeartbeats 4000000 in
set_option maxRecDepth 100000 in
theorem kX6_fills (l : Launch) {D : va_G} {cy : Nat → ClassId} {ad : Nat → Nat} (hJ : Inj ad 80)  (p1 : Int32) (M : Mm) (r : Int32) (M' : Mm) (h : fX6_fills p1 M = some (r, M')) : Met l yX6_fills vX6_fills ({ frames := 6, cells := 0, slots := 0, locals := 130 } : Room) (PcF [.ref (ad 0), .int p1] D cy ad kdV shC rfC 80 M) (QcI r D cy ad kdV shC rfC 80 M') 0 0 (AV ad 80) := by
  refine Met.ofW (cc := cX6_fills) (maxL := 2) (ret := (some .int)) (by decide) rfl ?_
  intro p e s m args below meth c s₁ B hml hv
  obtain ⟨rfl, hP, hK, hN⟩ := hv
  have hr := B.returns
  have hlocks := B.notSynchronized
  have S : CallFix p m c cX6_fills 2 s ([.ref (ad 0), .int p1] : List Value).toArray vX6_fills RX6 := ⟨B.exec, B.bytes, hml, findClass_of_methodNamed B.named, atoms_spec (ws := vX6_fills) B.pre⟩
  have hq : ∀ w ∈ GW, w.before ([.ref (ad 0), .int p1] : List Value).toArray s = true := fun w h => S.2.2.2.2 w (List.mem_cons_of_mem _ h)
  have hA : ∀ k, k < 80 → AV ad 80 (ad k) := fun k hk => ⟨k, hk, rfl⟩
  have hW : WSt D cy ad kdV shC rfC 80 (AV ad 80) M s.heap s.heap [] := ⟨hP, va_S.rf⟩
  clear hP
  have iX6 : ∀ w ∈ wsX60, w ∈ vX6_fills := fun w h => List.mem_cons_of_mem _ (inX6 w h)
  have hl := lv_entry ([.ref (ad 0), .int p1]) (n := 2) (Nat.le_of_ble_eq_true rfl)
  rw [lg_entry_eq]
  generalize (lg_sl ([.ref (ad 0), .int p1]) ++ List.replicate (2 - (lg_sl ([.ref (ad 0), .int p1])).length) Slot.unset).toArray = ls at hl ⊢
  have hl : lv_has ls 2 [(0, .ref (ad 0)), (1, .int p1)] := hl
  rw [fX6_fills] at h
  refine lv_aload_n S.1 S.2.1 dX6_fills_0 rfl (lv_at hl 0 rfl) ?_
  refine lv_iload_n S.1 S.2.1 dX6_fills_1 rfl (lv_at hl 1 rfl) ?_
  obtain ⟨v2, u1, h⟩ := bP_some h
  refine fl_doneI (fl_runV S hK hN (kX6_isMother l hJ p1 M v2 u1) (cwV 1 S.2.2.2.2 (gV q_155 q_156 q_157 q_3 q_154) rfl rfl rfl (by decide +kernel) ⟨Nat.le_of_ble_eq_true rfl, Nat.le_of_ble_eq_true rfl⟩) (ci := 6) rfl lC_0 sC_0 rfl hl.1 rfl (Nat.le_of_ble_eq_true rfl) dX6_fills_2 ⟨Nat.zero_le _, Nat.zero_le _⟩ hW) hA hW.2 (fun H locs hW => ?_)
  refine lv_if_ne (tgt := 10) S.1 S.2.1 dX6_fills_5 (by decide) (fun c3 => ?_) (fun c3 => ?_)
  · replace h := (if_neg c3).symm.trans h
    refine lv_aload_n S.1 S.2.1 dX6_fills_10 rfl (lv_at hl 0 rfl) ?_
    obtain ⟨v5, M6, u4, h⟩ := b2_some h
    refine fl_doneI (fl_runV S hK hN (kX6_mostFilled l hJ M v5 M6 u4) (cwV 0 S.2.2.2.2 (gV q_183 q_184 q_185 q_3 q_182) rfl rfl rfl (by decide +kernel) ⟨Nat.le_of_ble_eq_true rfl, Nat.le_of_ble_eq_true rfl⟩) (ci := 6) rfl lC_0 sC_0 rfl hl.1 rfl (Nat.le_of_ble_eq_true rfl) dX6_fills_11 ⟨Nat.zero_le _, Nat.zero_le _⟩ hW) hA hW.2 (fun H locs hW => ?_)
    refine lv_pop S.1 S.2.1 dX6_fills_14 rfl ?_
    refine lv_aload_n S.1 S.2.1 dX6_fills_15 rfl (lv_at hl 0 rfl) ?_
    refine fl_get S hK iX6 rfl lC_0 sC_0 5 (by decide) (hq _ q_174) (fun _ h9 => h9) (fvs_R rfl rfl) hW dX6_fills_16 ?_
    refine lv_iload_n S.1 S.2.1 dX6_fills_19 rfl (lv_at hl 1 rfl) ?_
    obtain ⟨v8, u7, h⟩ := bP_some h
    refine fl_doneI (fl_runVN S hK hN (kX0_workOf l hJ p1 M6 v8 u7) ⟨va_cnB 1 S.2.2.2.2 (gN q_205) rfl rfl rfl (hN.m 27 rfl) (hq _ q_13) (by decide +kernel) ⟨Nat.le_of_ble_eq_true rfl, Nat.le_of_ble_eq_true rfl⟩, (hq _ q_206), (hq _ q_207)⟩ (ci := 0) rfl lC_51 sC_51 rfl hl.1 rfl (Nat.le_of_ble_eq_true rfl) dX6_fills_20 ⟨Nat.zero_le _, Nat.zero_le _⟩ hW) hA hW.2 (fun H locs hW => ?_)
    obtain ⟨rfl, rfl⟩ := s2 h
    exact fl_iret S.1 S.2.1 hr hlocks hW dX6_fills_23
  · replace h := (if_pos c3).symm.trans h
    refine lv_iconst (v := (-1 : Int32)) S.1 S.2.1 dX6_fills_8 (by decide) ?_
    obtain ⟨rfl, rfl⟩ := s2 h
    exact fl_iret S.1 S.2.1 hr hlocks hW dX6_fills_9
def fX6_carry_L50 (p1 : Int32) : Nat → Int32 → Int32 → Int32 → Mm → Option (Int32 × Int32 × Int32 × Mm)
  | 0, _, _, _, _ => none
  | n + 1, x3, x4, x5, Ml => gd (isT (Ml.1 0 7).toNatClampNeg) (if (Ml.1 ((Ml.1 0 7).toNatClampNeg) 4) ≤ x5 then (some (x3, x4, x5, Ml)) else (bP (fX1_ageOfRoom 3 x5 Ml) (fun (v18 : Int32) => bP (fX5_worksAt ((Ml.1 0 7).toNatClampNeg) v18 Ml) (fun (v20 : Int32) => ix p1 6 (lt (wI Ml 52 (p1).toNatClampNeg v20) (fun (M22 : Mm) => b2 (fX0_solve M22) (fun (v25 : Int32) (M26 : Mm) => if v25 ≤ x4 then (fX6_carry_L50 p1 n x3 x4 (x5 + (1 : Int32)) M26) else (fX6_carry_L50 p1 n x5 v25 (x5 + (1 : Int32)) M26))))))))
def fX6_carry (p1 : Int32) (p2 : Int32) (M : Mm) : Option (Int32 × Mm) :=
  bP (fX6_isMother p1 M) (fun (v2 : Int32) => if v2 = 0 then (some ((-1 : Int32), M)) else (if p2 < 0 then (some ((-1 : Int32), M)) else (if p2 ≤ (1 : Int32) then (bP (fX6_has (M.1 3 4) p1) (fun (v7 : Int32) => if v7 = 0 then (bP (fX6_tellFilling M) (fun (M10 : Mm) => b4 (fX6_carry_L50 p1 50000 (-9 : Int32) (-9 : Int32) (0 : Int32) M10) (fun (w11 : Int32) (w12 : Int32) (w13 : Int32) (M14 : Mm) => if p2 = 0 then (some (w11, M14)) else (some (w12, M14))))) else (some ((-2 : Int32), M)))) else (some ((-1 : Int32), M)))))
set_option maxHeartbeats 4000000 in
set_option maxRecDepth 100000 in
theorem kX6_carry (l : Launch) {D : va_G} {cy : Nat → ClassId} {ad : Nat → Nat} (hJ : Inj ad 80)  (p1 : Int32) (p2 : Int32) (M : Mm) (r : Int32) (M' : Mm) (h : fX6_carry p1 p2 M = some (r, M')) : Met l yX6_carry vX6_carry ({ frames := 5, cells := 0, slots := 0, locals := 110 } : Room) (PcF [.ref (ad 0), .int p1, .int p2] D cy ad kdV shC rfC 80 M) (QcI r D cy ad kdV shC rfC 80 M') 0 0 (AV ad 80) := by
  refine Met.ofW (cc := cX6_carry) (maxL := 7) (ret := (some .int)) (by decide) rfl ?_
  intro p e s m args below meth c s₁ B hml hv
  obtain ⟨rfl, hP, hK, hN⟩ := hv
  have hr := B.returns
  have hlocks := B.notSynchronized
  have S : CallFix p m c cX6_carry 7 s ([.ref (ad 0), .int p1, .int p2] : List Value).toArray vX6_carry RX6 := ⟨B.exec, B.bytes, hml, findClass_of_methodNamed B.named, atoms_spec (ws := vX6_carry) B.pre⟩
  have hq : ∀ w ∈ GW, w.before ([.ref (ad 0), .int p1, .int p2] : List Value).toArray s = true := fun w h => S.2.2.2.2 w (List.mem_cons_of_mem _ h)
  have hA : ∀ k, k < 80 → AV ad 80 (ad k) := fun k hk => ⟨k, hk, rfl⟩
  have hW : WSt D cy ad kdV shC rfC 80 (AV ad 80) M s.heap s.heap [] := ⟨hP, va_S.rf⟩
  clear hP
  have iX0 : ∀ w ∈ wsX00, w ∈ vX6_carry := fun w h => List.mem_cons_of_mem _ (inX0 w h)
  have iX1 : ∀ w ∈ wsX10, w ∈ vX6_carry := fun w h => List.mem_cons_of_mem _ (inX1 w h)
  have iX5 : ∀ w ∈ wsX50, w ∈ vX6_carry := fun w h => List.mem_cons_of_mem _ (inX5 w h)
  have iX6 : ∀ w ∈ wsX60, w ∈ vX6_carry := fun w h => List.mem_cons_of_mem _ (inX6 w h)
  have hl := lv_entry ([.ref (ad 0), .int p1, .int p2]) (n := 7) (Nat.le_of_ble_eq_true rfl)
  rw [lg_entry_eq]
  generalize (lg_sl ([.ref (ad 0), .int p1, .int p2]) ++ List.replicate (7 - (lg_sl ([.ref (ad 0), .int p1, .int p2])).length) Slot.unset).toArray = ls at hl ⊢
  have hl : lv_has ls 7 [(0, .ref (ad 0)), (1, .int p1), (2, .int p2)] := hl
  rw [fX6_carry] at h
  refine lv_aload_n S.1 S.2.1 dX6_carry_0 rfl (lv_at hl 0 rfl) ?_
  refine lv_iload_n S.1 S.2.1 dX6_carry_1 rfl (lv_at hl 1 rfl) ?_
  obtain ⟨v2, u1, h⟩ := bP_some h
  refine fl_doneI (fl_runV S hK hN (kX6_isMother l hJ p1 M v2 u1) (cwV 1 S.2.2.2.2 (gV q_155 q_156 q_157 q_3 q_154) rfl rfl rfl (by decide +kernel) ⟨Nat.le_of_ble_eq_true rfl, Nat.le_of_ble_eq_true rfl⟩) (ci := 6) rfl lC_0 sC_0 rfl hl.1 rfl (Nat.le_of_ble_eq_true rfl) dX6_carry_2 ⟨Nat.zero_le _, Nat.zero_le _⟩ hW) hA hW.2 (fun H locs hW => ?_)
  refine lv_if_eq (tgt := 17) S.1 S.2.1 dX6_carry_5 (by decide) (fun c3 => ?_) (fun c3 => ?_)
  · replace h := (if_pos c3).symm.trans h
    refine lv_iconst (v := (-1 : Int32)) S.1 S.2.1 dX6_carry_17 (by decide) ?_
    obtain ⟨rfl, rfl⟩ := s2 h
    exact fl_iret S.1 S.2.1 hr hlocks hW dX6_carry_18
  · replace h := (if_neg c3).symm.trans h
    refine lv_iload_n S.1 S.2.1 dX6_carry_8 rfl (lv_at hl 2 rfl) ?_
    refine lv_if_lt (tgt := 17) S.1 S.2.1 dX6_carry_9 (by decide) (fun c4 => ?_) (fun c4 => ?_)
    · replace h := (if_pos c4).symm.trans h
      refine lv_iconst (v := (-1 : Int32)) S.1 S.2.1 dX6_carry_17 (by decide) ?_
      obtain ⟨rfl, rfl⟩ := s2 h
      exact fl_iret S.1 S.2.1 hr hlocks hW dX6_carry_18
    · replace h := (if_neg c4).symm.trans h
      refine lv_iload_n S.1 S.2.1 dX6_carry_12 rfl (lv_at hl 2 rfl) ?_
      refine lv_iconst (v := (1 : Int32)) S.1 S.2.1 dX6_carry_13 (by decide) ?_
      refine lv_icmp_le (tgt := 19) S.1 S.2.1 dX6_carry_14 (by decide) (fun c5 => ?_) (fun c5 => ?_)
      · replace h := (if_pos c5).symm.trans h
        refine lv_aload_n S.1 S.2.1 dX6_carry_19 rfl (lv_at hl 0 rfl) ?_
        refine fl_get S hK iX6 rfl lC_0 sC_0 1 (by decide) (hq _ q_130) (fun _ h9 => h9) (fvs_R rfl rfl) hW dX6_carry_20 ?_
        refine fl_getN S hK iX1 rfl lC_3 sC_3 4 (by decide) (hN.f 6 rfl) (fun _ h9 => h9) (fvs_I rfl) hW dX6_carry_23 ?_
        refine lv_iload_n S.1 S.2.1 dX6_carry_26 rfl (lv_at hl 1 rfl) ?_
        obtain ⟨v7, u6, h⟩ := bP_some h
        refine fl_doneP (fl_runS S (kX6_has l (M.1 3 4) p1 v7 u6) (va_cwS 2 S.2.2.2.2 (gS q_150 q_6 q_3 q_5) rfl rfl rfl (by decide +kernel) ⟨Nat.le_of_ble_eq_true rfl, Nat.le_of_ble_eq_true rfl⟩) rfl hl.1 rfl (Nat.le_of_ble_eq_true rfl) dX6_carry_27 ⟨Nat.zero_le _, Nat.zero_le _⟩) hW (fun H locs hW => ?_)
        refine lv_if_eq (tgt := 36) S.1 S.2.1 dX6_carry_30 (by decide) (fun c8 => ?_) (fun c8 => ?_)
        · replace h := (if_pos c8).symm.trans h
          refine lv_aload_n S.1 S.2.1 dX6_carry_36 rfl (lv_at hl 0 rfl) ?_
          obtain ⟨M10, u9, h⟩ := bP_some h
          refine fl_doneV (fl_runV S hK hN (kX6_tellFilling l hJ M M10 u9) (cwV 0 S.2.2.2.2 (gV q_176 q_177 q_178 q_3 q_175) rfl rfl rfl (by decide +kernel) ⟨Nat.le_of_ble_eq_true rfl, Nat.le_of_ble_eq_true rfl⟩) (ci := 6) rfl lC_0 sC_0 rfl hl.1 rfl (Nat.le_of_ble_eq_true rfl) dX6_carry_37 ⟨Nat.zero_le _, Nat.zero_le _⟩ hW) hA hW.2 (fun H locs hW => ?_)
          refine lv_bipush (v := (-9 : Int32)) S.1 S.2.1 dX6_carry_40 (by decide) ?_
          refine lv_istore_n (lv' := [(3, .int (-9 : Int32)), (0, .ref (ad 0)), (1, .int p1), (2, .int p2)]) S.1 S.2.1 dX6_carry_42 rfl hl (by decide) rfl (fun ls hl => ?_)
          refine lv_bipush (v := (-9 : Int32)) S.1 S.2.1 dX6_carry_43 (by decide) ?_
          refine lv_istore (lv' := [(4, .int (-9 : Int32)), (3, .int (-9 : Int32)), (0, .ref (ad 0)), (1, .int p1), (2, .int p2)]) S.1 S.2.1 dX6_carry_45 hl (by decide) rfl (fun ls hl => ?_)
          refine lv_iconst (v := (0 : Int32)) S.1 S.2.1 dX6_carry_47 (by decide) ?_
          refine lv_istore (lv' := [(5, .int (0 : Int32)), (4, .int (-9 : Int32)), (3, .int (-9 : Int32)), (0, .ref (ad 0)), (1, .int p1), (2, .int p2)]) S.1 S.2.1 dX6_carry_48 hl (by decide) rfl (fun ls hl => ?_)
          have L50 : ∀ (n : Nat) (x3 : Int32) (x4 : Int32) (x5 : Int32) (Ml : Mm) (w11 : Int32) (w12 : Int32) (w13 : Int32) (M14 : Mm), fX6_carry_L50 p1 n x3 x4 x5 Ml = some (w11, w12, w13, M14) → ∀ (H : Heap) (locs : List Loc) (ls : Array Slot), lv_has ls 7 [(0, .ref (ad 0)), (1, .int p1), (2, .int p2), (3, .int x3), (4, .int x4), (5, .int x5)] → WSt D cy ad kdV shC rfC 80 (AV ad 80) Ml s.heap H locs → (∀ (H : Heap) (locs : List Loc) (ls : Array Slot), lv_has ls 7 [(0, .ref (ad 0)), (1, .int p1), (2, .int p2), (3, .int w11), (4, .int w12), (5, .int w13)] → WSt D cy ad kdV shC rfC 80 (AV ad 80) M14 s.heap H locs → W p l e (headSpec vX6_carry ({ frames := 5, cells := 0, slots := 0, locals := 110 } : Room)).room s m ([.ref (ad 0), .int p1, .int p2] : List Value).toArray below meth c H locs 0 0 (MQ below (QcI r D cy ad kdV shC rfC 80 M') ([.ref (ad 0), .int p1, .int p2] : List Value).toArray s 0 0 (AV ad 80)) (F0 m 116 ls [])) → W p l e (headSpec vX6_carry ({ frames := 5, cells := 0, slots := 0, locals := 110 } : Room)).room s m ([.ref (ad 0), .int p1, .int p2] : List Value).toArray below meth c H locs 0 0 (MQ below (QcI r D cy ad kdV shC rfC 80 M') ([.ref (ad 0), .int p1, .int p2] : List Value).toArray s 0 0 (AV ad 80)) (F0 m 50 ls []) := by
            intro n
            induction n with
            | zero => intro x3 x4 x5 Ml w11 w12 w13 M14 h; cases h
            | succ n ih =>
              intro x3 x4 x5 Ml w11 w12 w13 M14 h H locs ls hl hW K
              rw [fX6_carry_L50] at h
              refine lv_iload S.1 S.2.1 dX6_carry_50 (lv_at hl 5 rfl) ?_
              refine lv_aload_n S.1 S.2.1 dX6_carry_52 rfl (lv_at hl 0 rfl) ?_
              obtain ⟨t15k, h⟩ := gd_some h
              obtain ⟨⟨t15l0, t15s0⟩, ⟨t15l1, t15s1⟩, ⟨t15l2, t15s2⟩, ⟨t15l3, t15s3⟩, t15r0, t15r1, t15r2⟩ := isT_ok t15k
              refine fl_get S hK iX6 rfl lC_0 sC_0 7 (by decide) (hq _ q_131) (fun _ h9 => h9) (fvs_D rfl) hW dX6_carry_53 ?_
              refine fl_getN S hK iX5 rfl t15l0 t15s0 4 (by decide) (hN.f 23 rfl) (fun _ h9 => h9) (fvs_I rfl) hW dX6_carry_56 ?_
              refine lv_icmp_ge (tgt := 116) S.1 S.2.1 dX6_carry_59 (by decide) (fun c16 => ?_) (fun c16 => ?_)
              · replace h := (if_pos c16).symm.trans h
                obtain ⟨rfl, rfl, rfl, rfl⟩ := s4 h
                exact K _ _ _ hl hW
              · replace h := (if_neg c16).symm.trans h
                refine lv_aload_n S.1 S.2.1 dX6_carry_62 rfl (lv_at hl 0 rfl) ?_
                refine fl_get S hK iX6 rfl lC_0 sC_0 5 (by decide) (hq _ q_174) (fun _ h9 => h9) (fvs_R rfl rfl) hW dX6_carry_63 ?_
                refine fl_getN S hK iX0 rfl lC_51 sC_51 0 (by decide) (hN.f 9 rfl) (fun _ h9 => h9) (fvs_R rfl rfl) hW dX6_carry_66 ?_
                refine lv_iload_n S.1 S.2.1 dX6_carry_69 rfl (lv_at hl 1 rfl) ?_
                refine lv_aload_n S.1 S.2.1 dX6_carry_70 rfl (lv_at hl 0 rfl) ?_
                refine fl_get S hK iX6 rfl lC_0 sC_0 7 (by decide) (hq _ q_131) (fun _ h9 => h9) (fvs_D rfl) hW dX6_carry_71 ?_
                refine lv_aload_n S.1 S.2.1 dX6_carry_74 rfl (lv_at hl 0 rfl) ?_
                refine fl_get S hK iX6 rfl lC_0 sC_0 1 (by decide) (hq _ q_130) (fun _ h9 => h9) (fvs_R rfl rfl) hW dX6_carry_75 ?_
                refine lv_iload S.1 S.2.1 dX6_carry_78 (lv_at hl 5 rfl) ?_
                obtain ⟨v18, u17, h⟩ := bP_some h
                refine fl_doneI (fl_runVN S hK hN (kX1_ageOfRoom l hJ 3 (rfl : isM 3 = true) x5 Ml v18 u17) ⟨va_cnB 1 S.2.2.2.2 (gN q_42) rfl rfl rfl (hN.m 12 rfl) (hq _ q_41) (by decide +kernel) ⟨Nat.le_of_ble_eq_true rfl, Nat.le_of_ble_eq_true rfl⟩, (hq _ q_44), (hq _ q_45)⟩ (ci := 1) rfl lC_3 sC_3 rfl hl.1 rfl (Nat.le_of_ble_eq_true rfl) dX6_carry_80 ⟨Nat.zero_le _, Nat.zero_le _⟩ hW) hA hW.2 (fun H locs hW => ?_)
                obtain ⟨v20, u19, h⟩ := bP_some h
                refine fl_doneI (fl_runVN S hK hN (kX5_worksAt l hJ ((Ml.1 0 7).toNatClampNeg) t15k v18 Ml v20 u19) ⟨va_cnB 1 S.2.2.2.2 (gN q_151) rfl rfl rfl (hN.m 14 rfl) (hq _ q_61) (by decide +kernel) ⟨Nat.le_of_ble_eq_true rfl, Nat.le_of_ble_eq_true rfl⟩, (hq _ q_152), (hq _ q_153)⟩ (ci := 5) rfl t15l0 t15s0 rfl hl.1 rfl (Nat.le_of_ble_eq_true rfl) dX6_carry_83 ⟨Nat.zero_le _, Nat.zero_le _⟩ hW) hA hW.2 (fun H locs hW => ?_)
                obtain ⟨g21, h⟩ := ix_some h
                refine fl_iast S hK hJ hA lC_52 sC_52 g21 hW dX6_carry_86 (fun H locs hW => ?_)
                obtain ⟨M22, e23, h⟩ := lt_some h
                rw [e23] at hW
                clear e23
                refine lv_aload_n S.1 S.2.1 dX6_carry_87 rfl (lv_at hl 0 rfl) ?_
                refine fl_get S hK iX6 rfl lC_0 sC_0 5 (by decide) (hq _ q_174) (fun _ h9 => h9) (fvs_R rfl rfl) hW dX6_carry_88 ?_
                obtain ⟨v25, M26, u24, h⟩ := b2_some h
                refine fl_doneI (fl_runVN S hK hN (kX0_solve l hJ M22 v25 M26 u24) ⟨va_cnB 0 S.2.2.2.2 (gN q_179) rfl rfl rfl (hN.m 17 rfl) (hq _ q_13) (by decide +kernel) ⟨Nat.le_of_ble_eq_true rfl, Nat.le_of_ble_eq_true rfl⟩, (hq _ q_180), (hq _ q_181)⟩ (ci := 0) rfl lC_51 sC_51 rfl hl.1 rfl (Nat.le_of_ble_eq_true rfl) dX6_carry_91 ⟨Nat.zero_le _, Nat.zero_le _⟩ hW) hA hW.2 (fun H locs hW => ?_)
                refine lv_istore (lv' := [(6, .int v25), (0, .ref (ad 0)), (1, .int p1), (2, .int p2), (3, .int x3), (4, .int x4), (5, .int x5)]) S.1 S.2.1 dX6_carry_94 hl (by decide) rfl (fun ls hl => ?_)
                refine lv_iload S.1 S.2.1 dX6_carry_96 (lv_at hl 0 rfl) ?_
                refine lv_iload S.1 S.2.1 dX6_carry_98 (lv_at hl 5 rfl) ?_
                refine lv_icmp_le (tgt := 110) S.1 S.2.1 dX6_carry_100 (by decide) (fun c27 => ?_) (fun c27 => ?_)
                · replace h := (if_pos c27).symm.trans h
                  refine lv_iinc (v := x5 + (1 : Int32)) (lv' := [(5, .int (x5 + (1 : Int32))), (6, .int v25), (0, .ref (ad 0)), (1, .int p1), (2, .int p2), (3, .int x3), (4, .int x4)]) S.1 S.2.1 dX6_carry_110 hl (k := 6) rfl rfl (by decide) rfl (fun ls hl => ?_)
                  refine lv_goto (tgt := 50) S.1 S.2.1 dX6_carry_113 (by decide) ?_
                  exact ih _ _ _ _ _ _ _ _ h _ _ _ (lv_sub hl [2, 3, 4, 5, 6, 0] rfl) hW K
                · replace h := (if_neg c27).symm.trans h
                  refine lv_iload S.1 S.2.1 dX6_carry_103 (lv_at hl 6 rfl) ?_
                  refine lv_istore_n (lv' := [(3, .int x5), (6, .int v25), (0, .ref (ad 0)), (1, .int p1), (2, .int p2), (4, .int x4), (5, .int x5)]) S.1 S.2.1 dX6_carry_105 rfl hl (by decide) rfl (fun ls hl => ?_)
                  refine lv_iload S.1 S.2.1 dX6_carry_106 (lv_at hl 1 rfl) ?_
                  refine lv_istore (lv' := [(4, .int v25), (3, .int x5), (6, .int v25), (0, .ref (ad 0)), (1, .int p1), (2, .int p2), (5, .int x5)]) S.1 S.2.1 dX6_carry_108 hl (by decide) rfl (fun ls hl => ?_)
                  refine lv_iinc (v := x5 + (1 : Int32)) (lv' := [(5, .int (x5 + (1 : Int32))), (4, .int v25), (3, .int x5), (6, .int v25), (0, .ref (ad 0)), (1, .int p1), (2, .int p2)]) S.1 S.2.1 dX6_carry_110 hl (k := 6) rfl rfl (by decide) rfl (fun ls hl => ?_)
                  refine lv_goto (tgt := 50) S.1 S.2.1 dX6_carry_113 (by decide) ?_
                  exact ih _ _ _ _ _ _ _ _ h _ _ _ (lv_sub hl [4, 5, 6, 2, 1, 0] rfl) hW K
          obtain ⟨w11, w12, w13, M14, u29, h⟩ := b4_some h
          refine L50 50000 _ _ _ _ _ _ _ _ u29 _ _ _ (lv_sub hl [3, 4, 5, 2, 1, 0] rfl) hW (fun H locs ls hl hW => ?_)
          clear L50
          refine lv_iload_n S.1 S.2.1 dX6_carry_116 rfl (lv_at hl 2 rfl) ?_
          refine lv_if_ne (tgt := 124) S.1 S.2.1 dX6_carry_117 (by decide) (fun c28 => ?_) (fun c28 => ?_)
          · replace h := (if_neg c28).symm.trans h
            refine lv_iload S.1 S.2.1 dX6_carry_124 (lv_at hl 4 rfl) ?_
            obtain ⟨rfl, rfl⟩ := s2 h
            exact fl_iret S.1 S.2.1 hr hlocks hW dX6_carry_126
          · replace h := (if_pos c28).symm.trans h
            refine lv_iload_n S.1 S.2.1 dX6_carry_120 rfl (lv_at hl 3 rfl) ?_
            refine lv_goto (tgt := 126) S.1 S.2.1 dX6_carry_121 (by decide) ?_
            obtain ⟨rfl, rfl⟩ := s2 h
            exact fl_iret S.1 S.2.1 hr hlocks hW dX6_carry_126
        · replace h := (if_neg c8).symm.trans h
          refine lv_bipush (v := (-2 : Int32)) S.1 S.2.1 dX6_carry_33 (by decide) ?_
          obtain ⟨rfl, rfl⟩ := s2 h
          exact fl_iret S.1 S.2.1 hr hlocks hW dX6_carry_35
      · replace h := (if_neg c5).symm.trans h
        refine lv_iconst (v := (-1 : Int32)) S.1 S.2.1 dX6_carry_17 (by decide) ?_
        obtain ⟨rfl, rfl⟩ := s2 h
        exact fl_iret S.1 S.2.1 hr hlocks hW dX6_carry_18
def fX6_join_L22 (p1 : Int32) (M : Mm) : Nat → Int32 → Int32 → Int32 → Option (Int32 × Int32 × Int32)
  | 0, _, _, _ => none
  | n + 1, x2, x3, x4 => gd (isT (M.1 0 7).toNatClampNeg) (bP (fX6_bit (M.1 ((M.1 0 7).toNatClampNeg) 4)) (fun (v8 : Int32) => if v8 ≤ x4 then (some (x2, x3, x4)) else (bP (fJ6_bitCount_0f7a4 x4) (fun (v11 : Int32) => if x3 ≤ v11 then (fX6_join_L22 p1 M n x2 x3 (x4 + (1 : Int32))) else (bP (fX1_ageTogether 3 x4 M) (fun (v14 : Int32) => if v14 = p1 then (fX6_join_L22 p1 M n x4 v11 (x4 + (1 : Int32))) else (fX6_join_L22 p1 M n x2 x3 (x4 + (1 : Int32)))))))))
def fX6_join (p1 : Int32) (M : Mm) : Option (Int32) :=
  if p1 < 0 then (some (-1 : Int32)) else (if p1 ≤ (198 : Int32) then (b3 (fX6_join_L22 p1 M 50000 (-9 : Int32) (7 : Int32) (1 : Int32)) (fun (w3 : Int32) (w4 : Int32) (w5 : Int32) => some w3)) else (some (-1 : Int32)))
set_option maxHeartbeats 4000000 in
set_option maxRecDepth 100000 in
theorem kX6_join (l : Launch) {D : va_G} {cy : Nat → ClassId} {ad : Nat → Nat} (hJ : Inj ad 80)  (p1 : Int32) (M : Mm) (r : Int32) (h : fX6_join p1 M = some r) : Met l yX6_join vX6_join ({ frames := 3, cells := 0, slots := 0, locals := 65 } : Room) (PcF [.ref (ad 0), .int p1] D cy ad kdV shC rfC 80 M) (QcI r D cy ad kdV shC rfC 80 M) 0 0 (AV ad 80) := by
  refine Met.ofW (cc := cX6_join) (maxL := 6) (ret := (some .int)) (by decide) rfl ?_
  intro p e s m args below meth c s₁ B hml hv
  obtain ⟨rfl, hP, hK, hN⟩ := hv
  have hr := B.returns
  have hlocks := B.notSynchronized
  have S : CallFix p m c cX6_join 6 s ([.ref (ad 0), .int p1] : List Value).toArray vX6_join RX6 := ⟨B.exec, B.bytes, hml, findClass_of_methodNamed B.named, atoms_spec (ws := vX6_join) B.pre⟩
  have hq : ∀ w ∈ GW, w.before ([.ref (ad 0), .int p1] : List Value).toArray s = true := fun w h => S.2.2.2.2 w (List.mem_cons_of_mem _ h)
  have hA : ∀ k, k < 80 → AV ad 80 (ad k) := fun k hk => ⟨k, hk, rfl⟩
  have hW : WSt D cy ad kdV shC rfC 80 (AV ad 80) M s.heap s.heap [] := ⟨hP, va_S.rf⟩
  clear hP
  have iX5 : ∀ w ∈ wsX50, w ∈ vX6_join := fun w h => List.mem_cons_of_mem _ (inX5 w h)
  have iX6 : ∀ w ∈ wsX60, w ∈ vX6_join := fun w h => List.mem_cons_of_mem _ (inX6 w h)
  have hl := lv_entry ([.ref (ad 0), .int p1]) (n := 6) (Nat.le_of_ble_eq_true rfl)
  rw [lg_entry_eq]
  generalize (lg_sl ([.ref (ad 0), .int p1]) ++ List.replicate (6 - (lg_sl ([.ref (ad 0), .int p1])).length) Slot.unset).toArray = ls at hl ⊢
  have hl : lv_has ls 6 [(0, .ref (ad 0)), (1, .int p1)] := hl
  rw [fX6_join] at h
  refine lv_iload_n S.1 S.2.1 dX6_join_0 rfl (lv_at hl 1 rfl) ?_
  refine lv_if_lt (tgt := 11) S.1 S.2.1 dX6_join_1 (by decide) (fun c1 => ?_) (fun c1 => ?_)
  · replace h := (if_pos c1).symm.trans h
    refine lv_iconst (v := (-1 : Int32)) S.1 S.2.1 dX6_join_11 (by decide) ?_
    obtain rfl := s1 h
    exact fl_iret S.1 S.2.1 hr hlocks hW dX6_join_12
  · replace h := (if_neg c1).symm.trans h
    refine lv_iload_n S.1 S.2.1 dX6_join_4 rfl (lv_at hl 1 rfl) ?_
    refine lv_sipush (v := (198 : Int32)) S.1 S.2.1 dX6_join_5 (by decide) ?_
    refine lv_icmp_le (tgt := 13) S.1 S.2.1 dX6_join_8 (by decide) (fun c2 => ?_) (fun c2 => ?_)
    · replace h := (if_pos c2).symm.trans h
      refine lv_bipush (v := (-9 : Int32)) S.1 S.2.1 dX6_join_13 (by decide) ?_
      refine lv_istore_n (lv' := [(2, .int (-9 : Int32)), (0, .ref (ad 0)), (1, .int p1)]) S.1 S.2.1 dX6_join_15 rfl hl (by decide) rfl (fun ls hl => ?_)
      refine lv_bipush (v := (7 : Int32)) S.1 S.2.1 dX6_join_16 (by decide) ?_
      refine lv_istore_n (lv' := [(3, .int (7 : Int32)), (2, .int (-9 : Int32)), (0, .ref (ad 0)), (1, .int p1)]) S.1 S.2.1 dX6_join_18 rfl hl (by decide) rfl (fun ls hl => ?_)
      refine lv_iconst (v := (1 : Int32)) S.1 S.2.1 dX6_join_19 (by decide) ?_
      refine lv_istore (lv' := [(4, .int (1 : Int32)), (3, .int (7 : Int32)), (2, .int (-9 : Int32)), (0, .ref (ad 0)), (1, .int p1)]) S.1 S.2.1 dX6_join_20 hl (by decide) rfl (fun ls hl => ?_)
      have L22 : ∀ (n : Nat) (x2 : Int32) (x3 : Int32) (x4 : Int32) (w3 : Int32) (w4 : Int32) (w5 : Int32), fX6_join_L22 p1 M n x2 x3 x4 = some (w3, w4, w5) → ∀ (H : Heap) (locs : List Loc) (ls : Array Slot), lv_has ls 6 [(0, .ref (ad 0)), (1, .int p1), (2, .int x2), (3, .int x3), (4, .int x4)] → WSt D cy ad kdV shC rfC 80 (AV ad 80) M s.heap H locs → (∀ (H : Heap) (locs : List Loc) (ls : Array Slot), lv_has ls 6 [(0, .ref (ad 0)), (1, .int p1), (2, .int w3), (3, .int w4), (4, .int w5)] → WSt D cy ad kdV shC rfC 80 (AV ad 80) M s.heap H locs → W p l e (headSpec vX6_join ({ frames := 3, cells := 0, slots := 0, locals := 65 } : Room)).room s m ([.ref (ad 0), .int p1] : List Value).toArray below meth c H locs 0 0 (MQ below (QcI r D cy ad kdV shC rfC 80 M) ([.ref (ad 0), .int p1] : List Value).toArray s 0 0 (AV ad 80)) (F0 m 75 ls [])) → W p l e (headSpec vX6_join ({ frames := 3, cells := 0, slots := 0, locals := 65 } : Room)).room s m ([.ref (ad 0), .int p1] : List Value).toArray below meth c H locs 0 0 (MQ below (QcI r D cy ad kdV shC rfC 80 M) ([.ref (ad 0), .int p1] : List Value).toArray s 0 0 (AV ad 80)) (F0 m 22 ls []) := by
        intro n
        induction n with
        | zero => intro x2 x3 x4 w3 w4 w5 h; cases h
        | succ n ih =>
          intro x2 x3 x4 w3 w4 w5 h H locs ls hl hW K
          rw [fX6_join_L22] at h
          refine lv_iload S.1 S.2.1 dX6_join_22 (lv_at hl 4 rfl) ?_
          refine lv_aload_n S.1 S.2.1 dX6_join_24 rfl (lv_at hl 0 rfl) ?_
          obtain ⟨t6k, h⟩ := gd_some h
          obtain ⟨⟨t6l0, t6s0⟩, ⟨t6l1, t6s1⟩, ⟨t6l2, t6s2⟩, ⟨t6l3, t6s3⟩, t6r0, t6r1, t6r2⟩ := isT_ok t6k
          refine fl_get S hK iX6 rfl lC_0 sC_0 7 (by decide) (hq _ q_131) (fun _ h9 => h9) (fvs_D rfl) hW dX6_join_25 ?_
          refine fl_getN S hK iX5 rfl t6l0 t6s0 4 (by decide) (hN.f 23 rfl) (fun _ h9 => h9) (fvs_I rfl) hW dX6_join_28 ?_
          obtain ⟨v8, u7, h⟩ := bP_some h
          refine fl_doneP (fl_runS S (kX6_bit l (M.1 ((M.1 0 7).toNatClampNeg) 4) v8 u7) (va_cwS 1 S.2.2.2.2 (gS q_1 q_2 q_3 q_0) rfl rfl rfl (by decide +kernel) ⟨Nat.le_of_ble_eq_true rfl, Nat.le_of_ble_eq_true rfl⟩) rfl hl.1 rfl (Nat.le_of_ble_eq_true rfl) dX6_join_31 ⟨Nat.zero_le _, Nat.zero_le _⟩) hW (fun H locs hW => ?_)
          refine lv_icmp_ge (tgt := 75) S.1 S.2.1 dX6_join_34 (by decide) (fun c9 => ?_) (fun c9 => ?_)
          · replace h := (if_pos c9).symm.trans h
            obtain ⟨rfl, rfl, rfl⟩ := s3 h
            exact K _ _ _ hl hW
          · replace h := (if_neg c9).symm.trans h
            refine lv_iload S.1 S.2.1 dX6_join_37 (lv_at hl 4 rfl) ?_
            obtain ⟨v11, u10, h⟩ := bP_some h
            refine fl_doneP (fl_runS S (kJ6_bitCount_0f7a4 l x4 v11 u10) (va_cwS 1 S.2.2.2.2 (gS q_212 q_213 q_214 q_211) rfl rfl rfl (by decide +kernel) ⟨Nat.le_of_ble_eq_true rfl, Nat.le_of_ble_eq_true rfl⟩) rfl hl.1 rfl (Nat.le_of_ble_eq_true rfl) dX6_join_39 ⟨Nat.zero_le _, Nat.zero_le _⟩) hW (fun H locs hW => ?_)
            refine lv_istore (lv' := [(5, .int v11), (0, .ref (ad 0)), (1, .int p1), (2, .int x2), (3, .int x3), (4, .int x4)]) S.1 S.2.1 dX6_join_42 hl (by decide) rfl (fun ls hl => ?_)
            refine lv_iload S.1 S.2.1 dX6_join_44 (lv_at hl 0 rfl) ?_
            refine lv_iload_n S.1 S.2.1 dX6_join_46 rfl (lv_at hl 4 rfl) ?_
            refine lv_icmp_ge (tgt := 69) S.1 S.2.1 dX6_join_47 (by decide) (fun c12 => ?_) (fun c12 => ?_)
            · replace h := (if_pos c12).symm.trans h
              refine lv_iinc (v := x4 + (1 : Int32)) (lv' := [(4, .int (x4 + (1 : Int32))), (5, .int v11), (0, .ref (ad 0)), (1, .int p1), (2, .int x2), (3, .int x3)]) S.1 S.2.1 dX6_join_69 hl (k := 5) rfl rfl (by decide) rfl (fun ls hl => ?_)
              refine lv_goto (tgt := 22) S.1 S.2.1 dX6_join_72 (by decide) ?_
              exact ih _ _ _ _ _ _ h _ _ _ (lv_sub hl [2, 3, 4, 5, 0] rfl) hW K
            · replace h := (if_neg c12).symm.trans h
              refine lv_aload_n S.1 S.2.1 dX6_join_50 rfl (lv_at hl 1 rfl) ?_
              refine fl_get S hK iX6 rfl lC_0 sC_0 1 (by decide) (hq _ q_130) (fun _ h9 => h9) (fvs_R rfl rfl) hW dX6_join_51 ?_
              refine lv_iload S.1 S.2.1 dX6_join_54 (lv_at hl 5 rfl) ?_
              obtain ⟨v14, u13, h⟩ := bP_some h
              refine fl_doneI (fl_runVN S hK hN (kX1_ageTogether l hJ 3 (rfl : isM 3 = true) x4 M v14 u13) ⟨va_cnB 1 S.2.2.2.2 (gN q_37) rfl rfl rfl (hN.m 28 rfl) (hq _ q_41) (by decide +kernel) ⟨Nat.le_of_ble_eq_true rfl, Nat.le_of_ble_eq_true rfl⟩, (hq _ q_39), (hq _ q_40)⟩ (ci := 1) rfl lC_3 sC_3 rfl hl.1 rfl (Nat.le_of_ble_eq_true rfl) dX6_join_56 ⟨Nat.zero_le _, Nat.zero_le _⟩ hW) hA hW.2 (fun H locs hW => ?_)
              refine lv_iload_n S.1 S.2.1 dX6_join_59 rfl (lv_at hl 2 rfl) ?_
              refine lv_icmp_ne (tgt := 69) S.1 S.2.1 dX6_join_60 (by decide) (fun c15 => ?_) (fun c15 => ?_)
              · replace h := (if_neg c15).symm.trans h
                refine lv_iinc (v := x4 + (1 : Int32)) (lv' := [(4, .int (x4 + (1 : Int32))), (5, .int v11), (0, .ref (ad 0)), (1, .int p1), (2, .int x2), (3, .int x3)]) S.1 S.2.1 dX6_join_69 hl (k := 5) rfl rfl (by decide) rfl (fun ls hl => ?_)
                refine lv_goto (tgt := 22) S.1 S.2.1 dX6_join_72 (by decide) ?_
                exact ih _ _ _ _ _ _ h _ _ _ (lv_sub hl [2, 3, 4, 5, 0] rfl) hW K
              · replace h := (if_pos c15).symm.trans h
                refine lv_iload S.1 S.2.1 dX6_join_63 (lv_at hl 5 rfl) ?_
                refine lv_istore_n (lv' := [(2, .int x4), (5, .int v11), (0, .ref (ad 0)), (1, .int p1), (3, .int x3), (4, .int x4)]) S.1 S.2.1 dX6_join_65 rfl hl (by decide) rfl (fun ls hl => ?_)
                refine lv_iload S.1 S.2.1 dX6_join_66 (lv_at hl 1 rfl) ?_
                refine lv_istore_n (lv' := [(3, .int v11), (2, .int x4), (5, .int v11), (0, .ref (ad 0)), (1, .int p1), (4, .int x4)]) S.1 S.2.1 dX6_join_68 rfl hl (by decide) rfl (fun ls hl => ?_)
                refine lv_iinc (v := x4 + (1 : Int32)) (lv' := [(4, .int (x4 + (1 : Int32))), (3, .int v11), (2, .int x4), (5, .int v11), (0, .ref (ad 0)), (1, .int p1)]) S.1 S.2.1 dX6_join_69 hl (k := 5) rfl rfl (by decide) rfl (fun ls hl => ?_)
                refine lv_goto (tgt := 22) S.1 S.2.1 dX6_join_72 (by decide) ?_
                exact ih _ _ _ _ _ _ h _ _ _ (lv_sub hl [4, 5, 2, 1, 0] rfl) hW K
      obtain ⟨w3, w4, w5, u16, h⟩ := b3_some h
      refine L22 50000 _ _ _ _ _ _ u16 _ _ _ (lv_sub hl [3, 4, 2, 1, 0] rfl) hW (fun H locs ls hl hW => ?_)
      clear L22
      refine lv_iload_n S.1 S.2.1 dX6_join_75 rfl (lv_at hl 2 rfl) ?_
      obtain rfl := s1 h
      exact fl_iret S.1 S.2.1 hr hlocks hW dX6_join_76
    · replace h := (if_neg c2).symm.trans h
      refine lv_iconst (v := (-1 : Int32)) S.1 S.2.1 dX6_join_11 (by decide) ?_
      obtain rfl := s1 h
      exact fl_iret S.1 S.2.1 hr hlocks hW dX6_join_12
def fX6_elder_L14 (p1 : Int32) (M : Mm) : Nat → Int32 → Option ((Int32) ⊕ (Int32))
  | 0, _ => none
  | n + 1, x2 => gd (isT (M.1 0 7).toNatClampNeg) (if (M.1 ((M.1 0 7).toNatClampNeg) 5) ≤ x2 then (some (.inl x2)) else (bP (fX6_has (M.1 3 5) x2) (fun (v7 : Int32) => if v7 = 0 then (fX6_elder_L14 p1 M n (x2 + (1 : Int32))) else (bP (fX1_howManyAheadOf 3 x2 M) (fun (v10 : Int32) => if v10 = p1 then (some (.inr x2)) else (fX6_elder_L14 p1 M n (x2 + (1 : Int32))))))))
def fX6_elder (p1 : Int32) (M : Mm) : Option (Int32) :=
  if p1 < 0 then (some (-1 : Int32)) else (if p1 < (6 : Int32) then (bS (fX6_elder_L14 p1 M 50000 (0 : Int32)) (fun o13 => (fun (w3 : Int32) => some (-9 : Int32)) o13) (fun o13 => some o13)) else (some (-1 : Int32)))
set_option maxHeartbeats 4000000 in
set_option maxRecDepth 100000 in
theorem kX6_elder (l : Launch) {D : va_G} {cy : Nat → ClassId} {ad : Nat → Nat} (hJ : Inj ad 80)  (p1 : Int32) (M : Mm) (r : Int32) (h : fX6_elder p1 M = some r) : Met l yX6_elder vX6_elder ({ frames := 3, cells := 0, slots := 0, locals := 65 } : Room) (PcF [.ref (ad 0), .int p1] D cy ad kdV shC rfC 80 M) (QcI r D cy ad kdV shC rfC 80 M) 0 0 (AV ad 80) := by
  refine Met.ofW (cc := cX6_elder) (maxL := 3) (ret := (some .int)) (by decide) rfl ?_
  intro p e s m args below meth c s₁ B hml hv
  obtain ⟨rfl, hP, hK, hN⟩ := hv
  have hr := B.returns
  have hlocks := B.notSynchronized
  have S : CallFix p m c cX6_elder 3 s ([.ref (ad 0), .int p1] : List Value).toArray vX6_elder RX6 := ⟨B.exec, B.bytes, hml, findClass_of_methodNamed B.named, atoms_spec (ws := vX6_elder) B.pre⟩
  have hq : ∀ w ∈ GW, w.before ([.ref (ad 0), .int p1] : List Value).toArray s = true := fun w h => S.2.2.2.2 w (List.mem_cons_of_mem _ h)
  have hA : ∀ k, k < 80 → AV ad 80 (ad k) := fun k hk => ⟨k, hk, rfl⟩
  have hW : WSt D cy ad kdV shC rfC 80 (AV ad 80) M s.heap s.heap [] := ⟨hP, va_S.rf⟩
  clear hP
  have iX1 : ∀ w ∈ wsX10, w ∈ vX6_elder := fun w h => List.mem_cons_of_mem _ (inX1 w h)
  have iX5 : ∀ w ∈ wsX50, w ∈ vX6_elder := fun w h => List.mem_cons_of_mem _ (inX5 w h)
  have iX6 : ∀ w ∈ wsX60, w ∈ vX6_elder := fun w h => List.mem_cons_of_mem _ (inX6 w h)
  have hl := lv_entry ([.ref (ad 0), .int p1]) (n := 3) (Nat.le_of_ble_eq_true rfl)
  rw [lg_entry_eq]
  generalize (lg_sl ([.ref (ad 0), .int p1]) ++ List.replicate (3 - (lg_sl ([.ref (ad 0), .int p1])).length) Slot.unset).toArray = ls at hl ⊢
  have hl : lv_has ls 3 [(0, .ref (ad 0)), (1, .int p1)] := hl
  rw [fX6_elder] at h
  refine lv_iload_n S.1 S.2.1 dX6_elder_0 rfl (lv_at hl 1 rfl) ?_
  refine lv_if_lt (tgt := 10) S.1 S.2.1 dX6_elder_1 (by decide) (fun c1 => ?_) (fun c1 => ?_)
  · replace h := (if_pos c1).symm.trans h
    refine lv_iconst (v := (-1 : Int32)) S.1 S.2.1 dX6_elder_10 (by decide) ?_
    obtain rfl := s1 h
    exact fl_iret S.1 S.2.1 hr hlocks hW dX6_elder_11
  · replace h := (if_neg c1).symm.trans h
    refine lv_iload_n S.1 S.2.1 dX6_elder_4 rfl (lv_at hl 1 rfl) ?_
    refine lv_bipush (v := (6 : Int32)) S.1 S.2.1 dX6_elder_5 (by decide) ?_
    refine lv_icmp_lt (tgt := 12) S.1 S.2.1 dX6_elder_7 (by decide) (fun c2 => ?_) (fun c2 => ?_)
    · replace h := (if_pos c2).symm.trans h
      refine lv_iconst (v := (0 : Int32)) S.1 S.2.1 dX6_elder_12 (by decide) ?_
      refine lv_istore_n (lv' := [(2, .int (0 : Int32)), (0, .ref (ad 0)), (1, .int p1)]) S.1 S.2.1 dX6_elder_13 rfl hl (by decide) rfl (fun ls hl => ?_)
      have L14 : ∀ (n : Nat) (x2 : Int32) (o : (Int32) ⊕ (Int32)), fX6_elder_L14 p1 M n x2 = some o → ∀ (H : Heap) (locs : List Loc) (ls : Array Slot), lv_has ls 3 [(0, .ref (ad 0)), (1, .int p1), (2, .int x2)] → WSt D cy ad kdV shC rfC 80 (AV ad 80) M s.heap H locs → (∀ (w3 : Int32), o = .inl w3 → ∀ (H : Heap) (locs : List Loc) (ls : Array Slot), lv_has ls 3 [(0, .ref (ad 0)), (1, .int p1), (2, .int w3)] → WSt D cy ad kdV shC rfC 80 (AV ad 80) M s.heap H locs → W p l e (headSpec vX6_elder ({ frames := 3, cells := 0, slots := 0, locals := 65 } : Room)).room s m ([.ref (ad 0), .int p1] : List Value).toArray below meth c H locs 0 0 (MQ below (QcI r D cy ad kdV shC rfC 80 M) ([.ref (ad 0), .int p1] : List Value).toArray s 0 0 (AV ad 80)) (F0 m 59 ls [])) → (∀ (rr : Int32), o = .inr rr → ∀ (H : Heap) (locs : List Loc) (ls : Array Slot) (pc : Nat), WSt D cy ad kdV shC rfC 80 (AV ad 80) M s.heap H locs → decode cX6_elder pc = .ok (.ireturn, 1) → W p l e (headSpec vX6_elder ({ frames := 3, cells := 0, slots := 0, locals := 65 } : Room)).room s m ([.ref (ad 0), .int p1] : List Value).toArray below meth c H locs 0 0 (MQ below (QcI r D cy ad kdV shC rfC 80 M) ([.ref (ad 0), .int p1] : List Value).toArray s 0 0 (AV ad 80)) (F0 m pc ls [.int rr])) → W p l e (headSpec vX6_elder ({ frames := 3, cells := 0, slots := 0, locals := 65 } : Room)).room s m ([.ref (ad 0), .int p1] : List Value).toArray below meth c H locs 0 0 (MQ below (QcI r D cy ad kdV shC rfC 80 M) ([.ref (ad 0), .int p1] : List Value).toArray s 0 0 (AV ad 80)) (F0 m 14 ls []) := by
        intro n
        induction n with
        | zero => intro x2 o h; cases h
        | succ n ih =>
          intro x2 o h H locs ls hl hW K K2
          rw [fX6_elder_L14] at h
          refine lv_iload_n S.1 S.2.1 dX6_elder_14 rfl (lv_at hl 2 rfl) ?_
          refine lv_aload_n S.1 S.2.1 dX6_elder_15 rfl (lv_at hl 0 rfl) ?_
          obtain ⟨t4k, h⟩ := gd_some h
          obtain ⟨⟨t4l0, t4s0⟩, ⟨t4l1, t4s1⟩, ⟨t4l2, t4s2⟩, ⟨t4l3, t4s3⟩, t4r0, t4r1, t4r2⟩ := isT_ok t4k
          refine fl_get S hK iX6 rfl lC_0 sC_0 7 (by decide) (hq _ q_131) (fun _ h9 => h9) (fvs_D rfl) hW dX6_elder_16 ?_
          refine fl_getN S hK iX5 rfl t4l0 t4s0 5 (by decide) (hN.f 26 rfl) (fun _ h9 => h9) (fvs_I rfl) hW dX6_elder_19 ?_
          refine lv_icmp_ge (tgt := 59) S.1 S.2.1 dX6_elder_22 (by decide) (fun c5 => ?_) (fun c5 => ?_)
          · replace h := (if_pos c5).symm.trans h
            exact K _ (Option.some.inj h).symm _ _ _ hl hW
          · replace h := (if_neg c5).symm.trans h
            refine lv_aload_n S.1 S.2.1 dX6_elder_25 rfl (lv_at hl 0 rfl) ?_
            refine fl_get S hK iX6 rfl lC_0 sC_0 1 (by decide) (hq _ q_130) (fun _ h9 => h9) (fvs_R rfl rfl) hW dX6_elder_26 ?_
            refine fl_getN S hK iX1 rfl lC_3 sC_3 5 (by decide) (hN.f 7 rfl) (fun _ h9 => h9) (fvs_I rfl) hW dX6_elder_29 ?_
            refine lv_iload_n S.1 S.2.1 dX6_elder_32 rfl (lv_at hl 2 rfl) ?_
            obtain ⟨v7, u6, h⟩ := bP_some h
            refine fl_doneP (fl_runS S (kX6_has l (M.1 3 5) x2 v7 u6) (va_cwS 2 S.2.2.2.2 (gS q_150 q_6 q_3 q_5) rfl rfl rfl (by decide +kernel) ⟨Nat.le_of_ble_eq_true rfl, Nat.le_of_ble_eq_true rfl⟩) rfl hl.1 rfl (Nat.le_of_ble_eq_true rfl) dX6_elder_33 ⟨Nat.zero_le _, Nat.zero_le _⟩) hW (fun H locs hW => ?_)
            refine lv_if_eq (tgt := 53) S.1 S.2.1 dX6_elder_36 (by decide) (fun c8 => ?_) (fun c8 => ?_)
            · replace h := (if_pos c8).symm.trans h
              refine lv_iinc (v := x2 + (1 : Int32)) (lv' := [(2, .int (x2 + (1 : Int32))), (0, .ref (ad 0)), (1, .int p1)]) S.1 S.2.1 dX6_elder_53 hl (k := 2) rfl rfl (by decide) rfl (fun ls hl => ?_)
              refine lv_goto (tgt := 14) S.1 S.2.1 dX6_elder_56 (by decide) ?_
              exact ih _ _ h _ _ _ (lv_sub hl [1, 2, 0] rfl) hW K K2
            · replace h := (if_neg c8).symm.trans h
              refine lv_aload_n S.1 S.2.1 dX6_elder_39 rfl (lv_at hl 0 rfl) ?_
              refine fl_get S hK iX6 rfl lC_0 sC_0 1 (by decide) (hq _ q_130) (fun _ h9 => h9) (fvs_R rfl rfl) hW dX6_elder_40 ?_
              refine lv_iload_n S.1 S.2.1 dX6_elder_43 rfl (lv_at hl 2 rfl) ?_
              obtain ⟨v10, u9, h⟩ := bP_some h
              refine fl_doneI (fl_runVN S hK hN (kX1_howManyAheadOf l hJ 3 (rfl : isM 3 = true) x2 M v10 u9) ⟨va_cnB 1 S.2.2.2.2 (gN q_215) rfl rfl rfl (hN.m 29 rfl) (hq _ q_41) (by decide +kernel) ⟨Nat.le_of_ble_eq_true rfl, Nat.le_of_ble_eq_true rfl⟩, (hq _ q_216), (hq _ q_217)⟩ (ci := 1) rfl lC_3 sC_3 rfl hl.1 rfl (Nat.le_of_ble_eq_true rfl) dX6_elder_44 ⟨Nat.zero_le _, Nat.zero_le _⟩ hW) hA hW.2 (fun H locs hW => ?_)
              refine lv_iload_n S.1 S.2.1 dX6_elder_47 rfl (lv_at hl 1 rfl) ?_
              refine lv_icmp_ne (tgt := 53) S.1 S.2.1 dX6_elder_48 (by decide) (fun c11 => ?_) (fun c11 => ?_)
              · replace h := (if_neg c11).symm.trans h
                refine lv_iinc (v := x2 + (1 : Int32)) (lv' := [(2, .int (x2 + (1 : Int32))), (0, .ref (ad 0)), (1, .int p1)]) S.1 S.2.1 dX6_elder_53 hl (k := 2) rfl rfl (by decide) rfl (fun ls hl => ?_)
                refine lv_goto (tgt := 14) S.1 S.2.1 dX6_elder_56 (by decide) ?_
                exact ih _ _ h _ _ _ (lv_sub hl [1, 2, 0] rfl) hW K K2
              · replace h := (if_pos c11).symm.trans h
                refine lv_iload_n S.1 S.2.1 dX6_elder_51 rfl (lv_at hl 2 rfl) ?_
                exact K2 _ (Option.some.inj h).symm _ _ _ _ hW dX6_elder_52
      rcases bS_some h with ⟨o13, u12, h⟩ | ⟨o13, u12, h⟩
      · obtain ⟨w3, rfl⟩ : ∃ z, z = o13 := ⟨_, rfl⟩
        refine L14 50000 _ _ u12 _ _ _ (lv_sub hl [1, 2, 0] rfl) hW (fun w3z e H locs ls hl hW => ?_) (fun rr e => by cases e)
        cases e
        refine lv_bipush (v := (-9 : Int32)) S.1 S.2.1 dX6_elder_59 (by decide) ?_
        obtain rfl := s1 h
        exact fl_iret S.1 S.2.1 hr hlocks hW dX6_elder_61
      · refine L14 50000 _ _ u12 _ _ _ (lv_sub hl [1, 2, 0] rfl) hW (fun _ e => by cases e) (fun rr e H locs ls pc hW hd => ?_)
        cases e
        obtain rfl := s1 h
        exact fl_iret S.1 S.2.1 hr hlocks hW hd
    · replace h := (if_neg c2).symm.trans h
      refine lv_iconst (v := (-1 : Int32)) S.1 S.2.1 dX6_elder_10 (by decide) ?_
      obtain rfl := s1 h
      exact fl_iret S.1 S.2.1 hr hlocks hW dX6_elder_11
def fX6_roomsToDo_L4 (p1 : Int32) (M : Mm) : Nat → Int32 → Int32 → Option (Int32 × Int32)
  | 0, _, _ => none
  | n + 1, x2, x3 => gd (isT (M.1 0 7).toNatClampNeg) (if (M.1 ((M.1 0 7).toNatClampNeg) 4) ≤ x3 then (some (x2, x3)) else (bP (fX1_ageOfRoom 3 x3 M) (fun (v6 : Int32) => bP (fX5_does ((M.1 0 7).toNatClampNeg) p1 v6 M) (fun (v8 : Int32) => if v8 = 0 then (fX6_roomsToDo_L4 p1 M n x2 (x3 + (1 : Int32))) else (fX6_roomsToDo_L4 p1 M n (x2 + (1 : Int32)) (x3 + (1 : Int32)))))))
def fX6_roomsToDo (p1 : Int32) (M : Mm) : Option (Int32) :=
  b2 (fX6_roomsToDo_L4 p1 M 50000 (0 : Int32) (0 : Int32)) (fun (w1 : Int32) (w2 : Int32) => some w1)
set_option maxHeartbeats 4000000 in
set_option maxRecDepth 100000 in
theorem kX6_roomsToDo (l : Launch) {D : va_G} {cy : Nat → ClassId} {ad : Nat → Nat} (hJ : Inj ad 80)  (p1 : Int32) (M : Mm) (r : Int32) (h : fX6_roomsToDo p1 M = some r) : Met l yX6_roomsToDo vX6_roomsToDo ({ frames := 4, cells := 0, slots := 0, locals := 86 } : Room) (PcF [.ref (ad 0), .int p1] D cy ad kdV shC rfC 80 M) (QcI r D cy ad kdV shC rfC 80 M) 0 0 (AV ad 80) := by
  refine Met.ofW (cc := cX6_roomsToDo) (maxL := 4) (ret := (some .int)) (by decide) rfl ?_
  intro p e s m args below meth c s₁ B hml hv
  obtain ⟨rfl, hP, hK, hN⟩ := hv
  have hr := B.returns
  have hlocks := B.notSynchronized
  have S : CallFix p m c cX6_roomsToDo 4 s ([.ref (ad 0), .int p1] : List Value).toArray vX6_roomsToDo RX6 := ⟨B.exec, B.bytes, hml, findClass_of_methodNamed B.named, atoms_spec (ws := vX6_roomsToDo) B.pre⟩
  have hq : ∀ w ∈ GW, w.before ([.ref (ad 0), .int p1] : List Value).toArray s = true := fun w h => S.2.2.2.2 w (List.mem_cons_of_mem _ h)
  have hA : ∀ k, k < 80 → AV ad 80 (ad k) := fun k hk => ⟨k, hk, rfl⟩
  have hW : WSt D cy ad kdV shC rfC 80 (AV ad 80) M s.heap s.heap [] := ⟨hP, va_S.rf⟩
  clear hP
  have iX5 : ∀ w ∈ wsX50, w ∈ vX6_roomsToDo := fun w h => List.mem_cons_of_mem _ (inX5 w h)
  have iX6 : ∀ w ∈ wsX60, w ∈ vX6_roomsToDo := fun w h => List.mem_cons_of_mem _ (inX6 w h)
  have hl := lv_entry ([.ref (ad 0), .int p1]) (n := 4) (Nat.le_of_ble_eq_true rfl)
  rw [lg_entry_eq]
  generalize (lg_sl ([.ref (ad 0), .int p1]) ++ List.replicate (4 - (lg_sl ([.ref (ad 0), .int p1])).length) Slot.unset).toArray = ls at hl ⊢
  have hl : lv_has ls 4 [(0, .ref (ad 0)), (1, .int p1)] := hl
  rw [fX6_roomsToDo] at h
  refine lv_iconst (v := (0 : Int32)) S.1 S.2.1 dX6_roomsToDo_0 (by decide) ?_
  refine lv_istore_n (lv' := [(2, .int (0 : Int32)), (0, .ref (ad 0)), (1, .int p1)]) S.1 S.2.1 dX6_roomsToDo_1 rfl hl (by decide) rfl (fun ls hl => ?_)
  refine lv_iconst (v := (0 : Int32)) S.1 S.2.1 dX6_roomsToDo_2 (by decide) ?_
  refine lv_istore_n (lv' := [(3, .int (0 : Int32)), (2, .int (0 : Int32)), (0, .ref (ad 0)), (1, .int p1)]) S.1 S.2.1 dX6_roomsToDo_3 rfl hl (by decide) rfl (fun ls hl => ?_)
  have L4 : ∀ (n : Nat) (x2 : Int32) (x3 : Int32) (w1 : Int32) (w2 : Int32), fX6_roomsToDo_L4 p1 M n x2 x3 = some (w1, w2) → ∀ (H : Heap) (locs : List Loc) (ls : Array Slot), lv_has ls 4 [(0, .ref (ad 0)), (1, .int p1), (2, .int x2), (3, .int x3)] → WSt D cy ad kdV shC rfC 80 (AV ad 80) M s.heap H locs → (∀ (H : Heap) (locs : List Loc) (ls : Array Slot), lv_has ls 4 [(0, .ref (ad 0)), (1, .int p1), (2, .int w1), (3, .int w2)] → WSt D cy ad kdV shC rfC 80 (AV ad 80) M s.heap H locs → W p l e (headSpec vX6_roomsToDo ({ frames := 4, cells := 0, slots := 0, locals := 86 } : Room)).room s m ([.ref (ad 0), .int p1] : List Value).toArray below meth c H locs 0 0 (MQ below (QcI r D cy ad kdV shC rfC 80 M) ([.ref (ad 0), .int p1] : List Value).toArray s 0 0 (AV ad 80)) (F0 m 43 ls [])) → W p l e (headSpec vX6_roomsToDo ({ frames := 4, cells := 0, slots := 0, locals := 86 } : Room)).room s m ([.ref (ad 0), .int p1] : List Value).toArray below meth c H locs 0 0 (MQ below (QcI r D cy ad kdV shC rfC 80 M) ([.ref (ad 0), .int p1] : List Value).toArray s 0 0 (AV ad 80)) (F0 m 4 ls []) := by
    intro n
    induction n with
    | zero => intro x2 x3 w1 w2 h; cases h
    | succ n ih =>
      intro x2 x3 w1 w2 h H locs ls hl hW K
      rw [fX6_roomsToDo_L4] at h
      refine lv_iload_n S.1 S.2.1 dX6_roomsToDo_4 rfl (lv_at hl 3 rfl) ?_
      refine lv_aload_n S.1 S.2.1 dX6_roomsToDo_5 rfl (lv_at hl 0 rfl) ?_
      obtain ⟨t3k, h⟩ := gd_some h
      obtain ⟨⟨t3l0, t3s0⟩, ⟨t3l1, t3s1⟩, ⟨t3l2, t3s2⟩, ⟨t3l3, t3s3⟩, t3r0, t3r1, t3r2⟩ := isT_ok t3k
      refine fl_get S hK iX6 rfl lC_0 sC_0 7 (by decide) (hq _ q_131) (fun _ h9 => h9) (fvs_D rfl) hW dX6_roomsToDo_6 ?_
      refine fl_getN S hK iX5 rfl t3l0 t3s0 4 (by decide) (hN.f 23 rfl) (fun _ h9 => h9) (fvs_I rfl) hW dX6_roomsToDo_9 ?_
      refine lv_icmp_ge (tgt := 43) S.1 S.2.1 dX6_roomsToDo_12 (by decide) (fun c4 => ?_) (fun c4 => ?_)
      · replace h := (if_pos c4).symm.trans h
        obtain ⟨rfl, rfl⟩ := s2 h
        exact K _ _ _ hl hW
      · replace h := (if_neg c4).symm.trans h
        refine lv_aload_n S.1 S.2.1 dX6_roomsToDo_15 rfl (lv_at hl 0 rfl) ?_
        refine fl_get S hK iX6 rfl lC_0 sC_0 7 (by decide) (hq _ q_131) (fun _ h9 => h9) (fvs_D rfl) hW dX6_roomsToDo_16 ?_
        refine lv_iload_n S.1 S.2.1 dX6_roomsToDo_19 rfl (lv_at hl 1 rfl) ?_
        refine lv_aload_n S.1 S.2.1 dX6_roomsToDo_20 rfl (lv_at hl 0 rfl) ?_
        refine fl_get S hK iX6 rfl lC_0 sC_0 1 (by decide) (hq _ q_130) (fun _ h9 => h9) (fvs_R rfl rfl) hW dX6_roomsToDo_21 ?_
        refine lv_iload_n S.1 S.2.1 dX6_roomsToDo_24 rfl (lv_at hl 3 rfl) ?_
        obtain ⟨v6, u5, h⟩ := bP_some h
        refine fl_doneI (fl_runVN S hK hN (kX1_ageOfRoom l hJ 3 (rfl : isM 3 = true) x3 M v6 u5) ⟨va_cnB 1 S.2.2.2.2 (gN q_42) rfl rfl rfl (hN.m 12 rfl) (hq _ q_41) (by decide +kernel) ⟨Nat.le_of_ble_eq_true rfl, Nat.le_of_ble_eq_true rfl⟩, (hq _ q_44), (hq _ q_45)⟩ (ci := 1) rfl lC_3 sC_3 rfl hl.1 rfl (Nat.le_of_ble_eq_true rfl) dX6_roomsToDo_25 ⟨Nat.zero_le _, Nat.zero_le _⟩ hW) hA hW.2 (fun H locs hW => ?_)
        obtain ⟨v8, u7, h⟩ := bP_some h
        refine fl_doneI (fl_runVN S hK hN (kX5_does l hJ ((M.1 0 7).toNatClampNeg) t3k p1 v6 M v8 u7) ⟨va_cnB 2 S.2.2.2.2 (gN q_122) rfl rfl rfl (hN.m 16 rfl) (hq _ q_61) (by decide +kernel) ⟨Nat.le_of_ble_eq_true rfl, Nat.le_of_ble_eq_true rfl⟩, (hq _ q_124), (hq _ q_125)⟩ (ci := 5) rfl t3l0 t3s0 rfl hl.1 rfl (Nat.le_of_ble_eq_true rfl) dX6_roomsToDo_28 ⟨Nat.zero_le _, Nat.zero_le _⟩ hW) hA hW.2 (fun H locs hW => ?_)
        refine lv_if_eq (tgt := 37) S.1 S.2.1 dX6_roomsToDo_31 (by decide) (fun c9 => ?_) (fun c9 => ?_)
        · replace h := (if_pos c9).symm.trans h
          refine lv_iinc (v := x3 + (1 : Int32)) (lv' := [(3, .int (x3 + (1 : Int32))), (0, .ref (ad 0)), (1, .int p1), (2, .int x2)]) S.1 S.2.1 dX6_roomsToDo_37 hl (k := 3) rfl rfl (by decide) rfl (fun ls hl => ?_)
          refine lv_goto (tgt := 4) S.1 S.2.1 dX6_roomsToDo_40 (by decide) ?_
          exact ih _ _ _ _ h _ _ _ (lv_sub hl [1, 2, 3, 0] rfl) hW K
        · replace h := (if_neg c9).symm.trans h
          refine lv_iinc (v := x2 + (1 : Int32)) (lv' := [(2, .int (x2 + (1 : Int32))), (0, .ref (ad 0)), (1, .int p1), (3, .int x3)]) S.1 S.2.1 dX6_roomsToDo_34 hl (k := 2) rfl rfl (by decide) rfl (fun ls hl => ?_)
          refine lv_iinc (v := x3 + (1 : Int32)) (lv' := [(3, .int (x3 + (1 : Int32))), (2, .int (x2 + (1 : Int32))), (0, .ref (ad 0)), (1, .int p1)]) S.1 S.2.1 dX6_roomsToDo_37 hl (k := 3) rfl rfl (by decide) rfl (fun ls hl => ?_)
          refine lv_goto (tgt := 4) S.1 S.2.1 dX6_roomsToDo_40 (by decide) ?_
          exact ih _ _ _ _ h _ _ _ (lv_sub hl [2, 3, 1, 0] rfl) hW K
  obtain ⟨w1, w2, u10, h⟩ := b2_some h
  refine L4 50000 _ _ _ _ u10 _ _ _ (lv_sub hl [2, 3, 1, 0] rfl) hW (fun H locs ls hl hW => ?_)
  clear L4
  refine lv_iload_n S.1 S.2.1 dX6_roomsToDo_43 rfl (lv_at hl 2 rfl) ?_
  obtain rfl := s1 h
  exact fl_iret S.1 S.2.1 hr hlocks hW dX6_roomsToDo_44
def fX6_odds (p1 : Int32) (p2 : Int32) (M : Mm) : Option (Int32) :=
  bP (fX6_isWork p1 M) (fun (v2 : Int32) => if v2 = 0 then (some (-1 : Int32)) else (if p2 < 0 then (some (-1 : Int32)) else (if p2 ≤ (1 : Int32) then (gd (isT (M.1 0 7).toNatClampNeg) (if (M.1 ((M.1 0 7).toNatClampNeg) 4) = 0 then (some p2) else (bP (fJ6_bitCount_0f7a4 (M.1 3 4)) (fun (v9 : Int32) => bP (fX6_power (M.1 ((M.1 0 7).toNatClampNeg) 4) ((M.1 ((M.1 0 7).toNatClampNeg) 5) - v9)) (fun (v11 : Int32) => bP (fX6_roomsToDo p1 M) (fun (v13 : Int32) => bP (fX6_power ((M.1 ((M.1 0 7).toNatClampNeg) 4) - v13) ((M.1 ((M.1 0 7).toNatClampNeg) 5) - v9)) (fun (v15 : Int32) => bP (fX6_greatestDivisor (v11 - v15) v11) (fun (v17 : Int32) => if v17 = 0 then (some p2) else (if p2 = 0 then (nz v17 (some ((v11 - v15) / v17))) else (nz v17 (some (v11 / v17)))))))))))) else (some (-1 : Int32)))))
set_option maxHeartbeats 4000000 in
set_option maxRecDepth 100000 in
theorem kX6_odds (l : Launch) {D : va_G} {cy : Nat → ClassId} {ad : Nat → Nat} (hJ : Inj ad 80)  (p1 : Int32) (p2 : Int32) (M : Mm) (r : Int32) (h : fX6_odds p1 p2 M = some r) : Met l yX6_odds vX6_odds ({ frames := 5, cells := 0, slots := 0, locals := 109 } : Room) (PcF [.ref (ad 0), .int p1, .int p2] D cy ad kdV shC rfC 80 M) (QcI r D cy ad kdV shC rfC 80 M) 0 0 (AV ad 80) := by
  refine Met.ofW (cc := cX6_odds) (maxL := 7) (ret := (some .int)) (by decide) rfl ?_
  intro p e s m args below meth c s₁ B hml hv
  obtain ⟨rfl, hP, hK, hN⟩ := hv
  have hr := B.returns
  have hlocks := B.notSynchronized
  have S : CallFix p m c cX6_odds 7 s ([.ref (ad 0), .int p1, .int p2] : List Value).toArray vX6_odds RX6 := ⟨B.exec, B.bytes, hml, findClass_of_methodNamed B.named, atoms_spec (ws := vX6_odds) B.pre⟩
  have hq : ∀ w ∈ GW, w.before ([.ref (ad 0), .int p1, .int p2] : List Value).toArray s = true := fun w h => S.2.2.2.2 w (List.mem_cons_of_mem _ h)
  have hA : ∀ k, k < 80 → AV ad 80 (ad k) := fun k hk => ⟨k, hk, rfl⟩
  have hW : WSt D cy ad kdV shC rfC 80 (AV ad 80) M s.heap s.heap [] := ⟨hP, va_S.rf⟩
  clear hP
  have iX1 : ∀ w ∈ wsX10, w ∈ vX6_odds := fun w h => List.mem_cons_of_mem _ (inX1 w h)
  have iX5 : ∀ w ∈ wsX50, w ∈ vX6_odds := fun w h => List.mem_cons_of_mem _ (inX5 w h)
  have iX6 : ∀ w ∈ wsX60, w ∈ vX6_odds := fun w h => List.mem_cons_of_mem _ (inX6 w h)
  have hl := lv_entry ([.ref (ad 0), .int p1, .int p2]) (n := 7) (Nat.le_of_ble_eq_true rfl)
  rw [lg_entry_eq]
  generalize (lg_sl ([.ref (ad 0), .int p1, .int p2]) ++ List.replicate (7 - (lg_sl ([.ref (ad 0), .int p1, .int p2])).length) Slot.unset).toArray = ls at hl ⊢
  have hl : lv_has ls 7 [(0, .ref (ad 0)), (1, .int p1), (2, .int p2)] := hl
  rw [fX6_odds] at h
  refine lv_aload_n S.1 S.2.1 dX6_odds_0 rfl (lv_at hl 0 rfl) ?_
  refine lv_iload_n S.1 S.2.1 dX6_odds_1 rfl (lv_at hl 1 rfl) ?_
  obtain ⟨v2, u1, h⟩ := bP_some h
  refine fl_doneI (fl_runV S hK hN (kX6_isWork l hJ p1 M v2 u1) (cwV 1 S.2.2.2.2 (gV q_167 q_168 q_169 q_3 q_166) rfl rfl rfl (by decide +kernel) ⟨Nat.le_of_ble_eq_true rfl, Nat.le_of_ble_eq_true rfl⟩) (ci := 6) rfl lC_0 sC_0 rfl hl.1 rfl (Nat.le_of_ble_eq_true rfl) dX6_odds_2 ⟨Nat.zero_le _, Nat.zero_le _⟩ hW) hA hW.2 (fun H locs hW => ?_)
  refine lv_if_eq (tgt := 17) S.1 S.2.1 dX6_odds_5 (by decide) (fun c3 => ?_) (fun c3 => ?_)
  · replace h := (if_pos c3).symm.trans h
    refine lv_iconst (v := (-1 : Int32)) S.1 S.2.1 dX6_odds_17 (by decide) ?_
    obtain rfl := s1 h
    exact fl_iret S.1 S.2.1 hr hlocks hW dX6_odds_18
  · replace h := (if_neg c3).symm.trans h
    refine lv_iload_n S.1 S.2.1 dX6_odds_8 rfl (lv_at hl 2 rfl) ?_
    refine lv_if_lt (tgt := 17) S.1 S.2.1 dX6_odds_9 (by decide) (fun c4 => ?_) (fun c4 => ?_)
    · replace h := (if_pos c4).symm.trans h
      refine lv_iconst (v := (-1 : Int32)) S.1 S.2.1 dX6_odds_17 (by decide) ?_
      obtain rfl := s1 h
      exact fl_iret S.1 S.2.1 hr hlocks hW dX6_odds_18
    · replace h := (if_neg c4).symm.trans h
      refine lv_iload_n S.1 S.2.1 dX6_odds_12 rfl (lv_at hl 2 rfl) ?_
      refine lv_iconst (v := (1 : Int32)) S.1 S.2.1 dX6_odds_13 (by decide) ?_
      refine lv_icmp_le (tgt := 19) S.1 S.2.1 dX6_odds_14 (by decide) (fun c5 => ?_) (fun c5 => ?_)
      · replace h := (if_pos c5).symm.trans h
        refine lv_aload_n S.1 S.2.1 dX6_odds_19 rfl (lv_at hl 0 rfl) ?_
        obtain ⟨t6k, h⟩ := gd_some h
        obtain ⟨⟨t6l0, t6s0⟩, ⟨t6l1, t6s1⟩, ⟨t6l2, t6s2⟩, ⟨t6l3, t6s3⟩, t6r0, t6r1, t6r2⟩ := isT_ok t6k
        refine fl_get S hK iX6 rfl lC_0 sC_0 7 (by decide) (hq _ q_131) (fun _ h9 => h9) (fvs_D rfl) hW dX6_odds_20 ?_
        refine fl_getN S hK iX5 rfl t6l0 t6s0 4 (by decide) (hN.f 23 rfl) (fun _ h9 => h9) (fvs_I rfl) hW dX6_odds_23 ?_
        refine lv_if_ne (tgt := 31) S.1 S.2.1 dX6_odds_26 (by decide) (fun c7 => ?_) (fun c7 => ?_)
        · replace h := (if_neg c7).symm.trans h
          refine lv_aload_n S.1 S.2.1 dX6_odds_31 rfl (lv_at hl 0 rfl) ?_
          refine fl_get S hK iX6 rfl lC_0 sC_0 7 (by decide) (hq _ q_131) (fun _ h9 => h9) (fvs_D rfl) hW dX6_odds_32 ?_
          refine fl_getN S hK iX5 rfl t6l0 t6s0 5 (by decide) (hN.f 26 rfl) (fun _ h9 => h9) (fvs_I rfl) hW dX6_odds_35 ?_
          refine lv_aload_n S.1 S.2.1 dX6_odds_38 rfl (lv_at hl 0 rfl) ?_
          refine fl_get S hK iX6 rfl lC_0 sC_0 1 (by decide) (hq _ q_130) (fun _ h9 => h9) (fvs_R rfl rfl) hW dX6_odds_39 ?_
          refine fl_getN S hK iX1 rfl lC_3 sC_3 4 (by decide) (hN.f 6 rfl) (fun _ h9 => h9) (fvs_I rfl) hW dX6_odds_42 ?_
          obtain ⟨v9, u8, h⟩ := bP_some h
          refine fl_doneP (fl_runS S (kJ6_bitCount_0f7a4 l (M.1 3 4) v9 u8) (va_cwS 1 S.2.2.2.2 (gS q_212 q_213 q_214 q_211) rfl rfl rfl (by decide +kernel) ⟨Nat.le_of_ble_eq_true rfl, Nat.le_of_ble_eq_true rfl⟩) rfl hl.1 rfl (Nat.le_of_ble_eq_true rfl) dX6_odds_45 ⟨Nat.zero_le _, Nat.zero_le _⟩) hW (fun H locs hW => ?_)
          refine lv_isub S.1 S.2.1 dX6_odds_48 ?_
          refine lv_istore_n (lv' := [(3, .int ((M.1 ((M.1 0 7).toNatClampNeg) 5) - v9)), (0, .ref (ad 0)), (1, .int p1), (2, .int p2)]) S.1 S.2.1 dX6_odds_49 rfl hl (by decide) rfl (fun ls hl => ?_)
          refine lv_aload_n S.1 S.2.1 dX6_odds_50 rfl (lv_at hl 1 rfl) ?_
          refine fl_get S hK iX6 rfl lC_0 sC_0 7 (by decide) (hq _ q_131) (fun _ h9 => h9) (fvs_D rfl) hW dX6_odds_51 ?_
          refine fl_getN S hK iX5 rfl t6l0 t6s0 4 (by decide) (hN.f 23 rfl) (fun _ h9 => h9) (fvs_I rfl) hW dX6_odds_54 ?_
          refine lv_iload_n S.1 S.2.1 dX6_odds_57 rfl (lv_at hl 0 rfl) ?_
          obtain ⟨v11, u10, h⟩ := bP_some h
          refine fl_doneP (fl_runS S (kX6_power l (M.1 ((M.1 0 7).toNatClampNeg) 4) ((M.1 ((M.1 0 7).toNatClampNeg) 5) - v9) v11 u10) (va_cwS 2 S.2.2.2.2 (gS q_219 q_220 q_3 q_218) rfl rfl rfl (by decide +kernel) ⟨Nat.le_of_ble_eq_true rfl, Nat.le_of_ble_eq_true rfl⟩) rfl hl.1 rfl (Nat.le_of_ble_eq_true rfl) dX6_odds_58 ⟨Nat.zero_le _, Nat.zero_le _⟩) hW (fun H locs hW => ?_)
          refine lv_istore (lv' := [(4, .int v11), (3, .int ((M.1 ((M.1 0 7).toNatClampNeg) 5) - v9)), (0, .ref (ad 0)), (1, .int p1), (2, .int p2)]) S.1 S.2.1 dX6_odds_61 hl (by decide) rfl (fun ls hl => ?_)
          refine lv_iload S.1 S.2.1 dX6_odds_63 (lv_at hl 0 rfl) ?_
          refine lv_aload_n S.1 S.2.1 dX6_odds_65 rfl (lv_at hl 2 rfl) ?_
          refine fl_get S hK iX6 rfl lC_0 sC_0 7 (by decide) (hq _ q_131) (fun _ h9 => h9) (fvs_D rfl) hW dX6_odds_66 ?_
          refine fl_getN S hK iX5 rfl t6l0 t6s0 4 (by decide) (hN.f 23 rfl) (fun _ h9 => h9) (fvs_I rfl) hW dX6_odds_69 ?_
          refine lv_aload_n S.1 S.2.1 dX6_odds_72 rfl (lv_at hl 2 rfl) ?_
          refine lv_iload_n S.1 S.2.1 dX6_odds_73 rfl (lv_at hl 3 rfl) ?_
          obtain ⟨v13, u12, h⟩ := bP_some h
          refine fl_doneI (fl_runV S hK hN (kX6_roomsToDo l hJ p1 M v13 u12) (cwV 1 S.2.2.2.2 (gV q_222 q_223 q_224 q_3 q_221) rfl rfl rfl (by decide +kernel) ⟨Nat.le_of_ble_eq_true rfl, Nat.le_of_ble_eq_true rfl⟩) (ci := 6) rfl lC_0 sC_0 rfl hl.1 rfl (Nat.le_of_ble_eq_true rfl) dX6_odds_74 ⟨Nat.zero_le _, Nat.zero_le _⟩ hW) hA hW.2 (fun H locs hW => ?_)
          refine lv_isub S.1 S.2.1 dX6_odds_77 ?_
          refine lv_iload_n S.1 S.2.1 dX6_odds_78 rfl (lv_at hl 1 rfl) ?_
          obtain ⟨v15, u14, h⟩ := bP_some h
          refine fl_doneP (fl_runS S (kX6_power l ((M.1 ((M.1 0 7).toNatClampNeg) 4) - v13) ((M.1 ((M.1 0 7).toNatClampNeg) 5) - v9) v15 u14) (va_cwS 2 S.2.2.2.2 (gS q_219 q_220 q_3 q_218) rfl rfl rfl (by decide +kernel) ⟨Nat.le_of_ble_eq_true rfl, Nat.le_of_ble_eq_true rfl⟩) rfl hl.1 rfl (Nat.le_of_ble_eq_true rfl) dX6_odds_79 ⟨Nat.zero_le _, Nat.zero_le _⟩) hW (fun H locs hW => ?_)
          refine lv_isub S.1 S.2.1 dX6_odds_82 ?_
          refine lv_istore (lv' := [(5, .int (v11 - v15)), (4, .int v11), (3, .int ((M.1 ((M.1 0 7).toNatClampNeg) 5) - v9)), (0, .ref (ad 0)), (1, .int p1), (2, .int p2)]) S.1 S.2.1 dX6_odds_83 hl (by decide) rfl (fun ls hl => ?_)
          refine lv_iload S.1 S.2.1 dX6_odds_85 (lv_at hl 0 rfl) ?_
          refine lv_iload S.1 S.2.1 dX6_odds_87 (lv_at hl 1 rfl) ?_
          obtain ⟨v17, u16, h⟩ := bP_some h
          refine fl_doneP (fl_runS S (kX6_greatestDivisor l (v11 - v15) v11 v17 u16) (va_cwS 2 S.2.2.2.2 (gS q_226 q_227 q_3 q_225) rfl rfl rfl (by decide +kernel) ⟨Nat.le_of_ble_eq_true rfl, Nat.le_of_ble_eq_true rfl⟩) rfl hl.1 rfl (Nat.le_of_ble_eq_true rfl) dX6_odds_89 ⟨Nat.zero_le _, Nat.zero_le _⟩) hW (fun H locs hW => ?_)
          refine lv_istore (lv' := [(6, .int v17), (5, .int (v11 - v15)), (4, .int v11), (3, .int ((M.1 ((M.1 0 7).toNatClampNeg) 5) - v9)), (0, .ref (ad 0)), (1, .int p1), (2, .int p2)]) S.1 S.2.1 dX6_odds_92 hl (by decide) rfl (fun ls hl => ?_)
          refine lv_iload S.1 S.2.1 dX6_odds_94 (lv_at hl 0 rfl) ?_
          refine lv_if_ne (tgt := 101) S.1 S.2.1 dX6_odds_96 (by decide) (fun c18 => ?_) (fun c18 => ?_)
          · replace h := (if_neg c18).symm.trans h
            refine lv_iload_n S.1 S.2.1 dX6_odds_101 rfl (lv_at hl 6 rfl) ?_
            refine lv_if_ne (tgt := 110) S.1 S.2.1 dX6_odds_102 (by decide) (fun c19 => ?_) (fun c19 => ?_)
            · replace h := (if_neg c19).symm.trans h
              refine lv_iload S.1 S.2.1 dX6_odds_110 (lv_at hl 2 rfl) ?_
              refine lv_iload S.1 S.2.1 dX6_odds_112 (lv_at hl 0 rfl) ?_
              obtain ⟨g21, h⟩ := nz_some h
              refine lv_idiv S.1 S.2.1 dX6_odds_114 g21 ?_
              obtain rfl := s1 h
              exact fl_iret S.1 S.2.1 hr hlocks hW dX6_odds_115
            · replace h := (if_pos c19).symm.trans h
              refine lv_iload S.1 S.2.1 dX6_odds_105 (lv_at hl 1 rfl) ?_
              refine lv_goto (tgt := 112) S.1 S.2.1 dX6_odds_107 (by decide) ?_
              refine lv_iload S.1 S.2.1 dX6_odds_112 (lv_at hl 0 rfl) ?_
              obtain ⟨g20, h⟩ := nz_some h
              refine lv_idiv S.1 S.2.1 dX6_odds_114 g20 ?_
              obtain rfl := s1 h
              exact fl_iret S.1 S.2.1 hr hlocks hW dX6_odds_115
          · replace h := (if_pos c18).symm.trans h
            refine lv_iload_n S.1 S.2.1 dX6_odds_99 rfl (lv_at hl 6 rfl) ?_
            obtain rfl := s1 h
            exact fl_iret S.1 S.2.1 hr hlocks hW dX6_odds_100
        · replace h := (if_pos c7).symm.trans h
          refine lv_iload_n S.1 S.2.1 dX6_odds_29 rfl (lv_at hl 2 rfl) ?_
          obtain rfl := s1 h
          exact fl_iret S.1 S.2.1 hr hlocks hW dX6_odds_30
      · replace h := (if_neg c5).symm.trans h
        refine lv_iconst (v := (-1 : Int32)) S.1 S.2.1 dX6_odds_17 (by decide) ?_
        obtain rfl := s1 h
        exact fl_iret S.1 S.2.1 hr hlocks hW dX6_odds_18
def fX6_sees (p1 : Int32) (p2 : Int32) (M : Mm) : Option (Int32 × Mm) :=
  bP (fX6_isWork p1 M) (fun (v2 : Int32) => if v2 = 0 then (some ((-1 : Int32), M)) else (if p2 < 0 then (some ((-1 : Int32), M)) else (if p2 ≤ (1 : Int32) then (if (M.1 61 2) < (6 : Int32) then (bP (if p2 = (1 : Int32) then (some (1 : Int32)) else (some (0 : Int32))) (fun (j8 : Int32) => bP (fX3_add p1 j8 M) (fun (M11 : Mm) => some (M11.1 61 2, M11)))) else (some ((-3 : Int32), M))) else (some ((-1 : Int32), M)))))
set_option maxHeartbeats 4000000 in
set_option maxRecDepth 100000 in
theorem kX6_sees (l : Launch) {D : va_G} {cy : Nat → ClassId} {ad : Nat → Nat} (hJ : Inj ad 80)  (p1 : Int32) (p2 : Int32) (M : Mm) (r : Int32) (M' : Mm) (h : fX6_sees p1 p2 M = some (r, M')) : Met l yX6_sees vX6_sees ({ frames := 1, cells := 0, slots := 0, locals := 22 } : Room) (PcF [.ref (ad 0), .int p1, .int p2] D cy ad kdV shC rfC 80 M) (QcI r D cy ad kdV shC rfC 80 M') 0 0 (AV ad 80) := by
  refine Met.ofW (cc := cX6_sees) (maxL := 3) (ret := (some .int)) (by decide) rfl ?_
  intro p e s m args below meth c s₁ B hml hv
  obtain ⟨rfl, hP, hK, hN⟩ := hv
  have hr := B.returns
  have hlocks := B.notSynchronized
  have S : CallFix p m c cX6_sees 3 s ([.ref (ad 0), .int p1, .int p2] : List Value).toArray vX6_sees RX6 := ⟨B.exec, B.bytes, hml, findClass_of_methodNamed B.named, atoms_spec (ws := vX6_sees) B.pre⟩
  have hq : ∀ w ∈ GW, w.before ([.ref (ad 0), .int p1, .int p2] : List Value).toArray s = true := fun w h => S.2.2.2.2 w (List.mem_cons_of_mem _ h)
  have hA : ∀ k, k < 80 → AV ad 80 (ad k) := fun k hk => ⟨k, hk, rfl⟩
  have hW : WSt D cy ad kdV shC rfC 80 (AV ad 80) M s.heap s.heap [] := ⟨hP, va_S.rf⟩
  clear hP
  have iX3 : ∀ w ∈ wsX30, w ∈ vX6_sees := fun w h => List.mem_cons_of_mem _ (inX3 w h)
  have iX6 : ∀ w ∈ wsX60, w ∈ vX6_sees := fun w h => List.mem_cons_of_mem _ (inX6 w h)
  have hl := lv_entry ([.ref (ad 0), .int p1, .int p2]) (n := 3) (Nat.le_of_ble_eq_true rfl)
  rw [lg_entry_eq]
  generalize (lg_sl ([.ref (ad 0), .int p1, .int p2]) ++ List.replicate (3 - (lg_sl ([.ref (ad 0), .int p1, .int p2])).length) Slot.unset).toArray = ls at hl ⊢
  have hl : lv_has ls 3 [(0, .ref (ad 0)), (1, .int p1), (2, .int p2)] := hl
  rw [fX6_sees] at h
  refine lv_aload_n S.1 S.2.1 dX6_sees_0 rfl (lv_at hl 0 rfl) ?_
  refine lv_iload_n S.1 S.2.1 dX6_sees_1 rfl (lv_at hl 1 rfl) ?_
  obtain ⟨v2, u1, h⟩ := bP_some h
  refine fl_doneI (fl_runV S hK hN (kX6_isWork l hJ p1 M v2 u1) (cwV 1 S.2.2.2.2 (gV q_167 q_168 q_169 q_3 q_166) rfl rfl rfl (by decide +kernel) ⟨Nat.le_of_ble_eq_true rfl, Nat.le_of_ble_eq_true rfl⟩) (ci := 6) rfl lC_0 sC_0 rfl hl.1 rfl (Nat.le_of_ble_eq_true rfl) dX6_sees_2 ⟨Nat.zero_le _, Nat.zero_le _⟩ hW) hA hW.2 (fun H locs hW => ?_)
  refine lv_if_eq (tgt := 17) S.1 S.2.1 dX6_sees_5 (by decide) (fun c3 => ?_) (fun c3 => ?_)
  · replace h := (if_pos c3).symm.trans h
    refine lv_iconst (v := (-1 : Int32)) S.1 S.2.1 dX6_sees_17 (by decide) ?_
    obtain ⟨rfl, rfl⟩ := s2 h
    exact fl_iret S.1 S.2.1 hr hlocks hW dX6_sees_18
  · replace h := (if_neg c3).symm.trans h
    refine lv_iload_n S.1 S.2.1 dX6_sees_8 rfl (lv_at hl 2 rfl) ?_
    refine lv_if_lt (tgt := 17) S.1 S.2.1 dX6_sees_9 (by decide) (fun c4 => ?_) (fun c4 => ?_)
    · replace h := (if_pos c4).symm.trans h
      refine lv_iconst (v := (-1 : Int32)) S.1 S.2.1 dX6_sees_17 (by decide) ?_
      obtain ⟨rfl, rfl⟩ := s2 h
      exact fl_iret S.1 S.2.1 hr hlocks hW dX6_sees_18
    · replace h := (if_neg c4).symm.trans h
      refine lv_iload_n S.1 S.2.1 dX6_sees_12 rfl (lv_at hl 2 rfl) ?_
      refine lv_iconst (v := (1 : Int32)) S.1 S.2.1 dX6_sees_13 (by decide) ?_
      refine lv_icmp_le (tgt := 19) S.1 S.2.1 dX6_sees_14 (by decide) (fun c5 => ?_) (fun c5 => ?_)
      · replace h := (if_pos c5).symm.trans h
        refine lv_aload_n S.1 S.2.1 dX6_sees_19 rfl (lv_at hl 0 rfl) ?_
        refine fl_get S hK iX6 rfl lC_0 sC_0 6 (by decide) (hq _ q_136) (fun _ h9 => h9) (fvs_R rfl rfl) hW dX6_sees_20 ?_
        refine fl_getN S hK iX3 rfl lC_61 sC_61 2 (by decide) (hN.f 12 rfl) (fun _ h9 => h9) (fvs_I rfl) hW dX6_sees_23 ?_
        refine lv_bipush (v := (6 : Int32)) S.1 S.2.1 dX6_sees_26 (by decide) ?_
        refine lv_icmp_lt (tgt := 34) S.1 S.2.1 dX6_sees_28 (by decide) (fun c6 => ?_) (fun c6 => ?_)
        · replace h := (if_pos c6).symm.trans h
          refine lv_aload_n S.1 S.2.1 dX6_sees_34 rfl (lv_at hl 0 rfl) ?_
          refine fl_get S hK iX6 rfl lC_0 sC_0 6 (by decide) (hq _ q_136) (fun _ h9 => h9) (fvs_R rfl rfl) hW dX6_sees_35 ?_
          refine lv_iload_n S.1 S.2.1 dX6_sees_38 rfl (lv_at hl 1 rfl) ?_
          refine lv_iload_n S.1 S.2.1 dX6_sees_39 rfl (lv_at hl 2 rfl) ?_
          refine lv_iconst (v := (1 : Int32)) S.1 S.2.1 dX6_sees_40 (by decide) ?_
          obtain ⟨j8, u12, h⟩ := bP_some h
          have J9 : ∀ (H : Heap) (locs : List Loc) (ls : Array Slot), lv_has ls 3 [(0, .ref (ad 0)), (1, .int p1), (2, .int p2)] → WSt D cy ad kdV shC rfC 80 (AV ad 80) M s.heap H locs → W p l e (headSpec vX6_sees ({ frames := 1, cells := 0, slots := 0, locals := 22 } : Room)).room s m ([.ref (ad 0), .int p1, .int p2] : List Value).toArray below meth c H locs 0 0 (MQ below (QcI r D cy ad kdV shC rfC 80 M') ([.ref (ad 0), .int p1, .int p2] : List Value).toArray s 0 0 (AV ad 80)) (F0 m 49 ls [.int j8, .int p1, .ref (ad 61)]) := by
            intro H locs ls hl hW
            obtain ⟨M11, u10, h⟩ := bP_some h
            refine fl_doneV (fl_runVN S hK hN (kX3_add l hJ p1 j8 M M11 u10) ⟨va_cnB 2 S.2.2.2.2 (gN q_228) rfl rfl rfl (hN.m 30 rfl) (hq _ q_229) (by decide +kernel) ⟨Nat.le_of_ble_eq_true rfl, Nat.le_of_ble_eq_true rfl⟩, (hq _ q_230), (hq _ q_231)⟩ (ci := 3) rfl lC_61 sC_61 rfl hl.1 rfl (Nat.le_of_ble_eq_true rfl) dX6_sees_49 ⟨Nat.zero_le _, Nat.zero_le _⟩ hW) hA hW.2 (fun H locs hW => ?_)
            refine lv_aload_n S.1 S.2.1 dX6_sees_52 rfl (lv_at hl 0 rfl) ?_
            refine fl_get S hK iX6 rfl lC_0 sC_0 6 (by decide) (hq _ q_136) (fun _ h9 => h9) (fvs_R rfl rfl) hW dX6_sees_53 ?_
            refine fl_getN S hK iX3 rfl lC_61 sC_61 2 (by decide) (hN.f 12 rfl) (fun _ h9 => h9) (fvs_I rfl) hW dX6_sees_56 ?_
            obtain ⟨rfl, rfl⟩ := s2 h
            exact fl_iret S.1 S.2.1 hr hlocks hW dX6_sees_59
          clear h
          have h := u12
          clear u12
          refine lv_icmp_ne (tgt := 48) S.1 S.2.1 dX6_sees_41 (by decide) (fun c7 => ?_) (fun c7 => ?_)
          · replace h := (if_neg c7).symm.trans h
            refine lv_iconst (v := (0 : Int32)) S.1 S.2.1 dX6_sees_48 (by decide) ?_
            obtain rfl := s1 h
            exact J9 _ _ _ hl hW
          · replace h := (if_pos c7).symm.trans h
            refine lv_iconst (v := (1 : Int32)) S.1 S.2.1 dX6_sees_44 (by decide) ?_
            refine lv_goto (tgt := 49) S.1 S.2.1 dX6_sees_45 (by decide) ?_
            obtain rfl := s1 h
            exact J9 _ _ _ hl hW
        · replace h := (if_neg c6).symm.trans h
          refine lv_bipush (v := (-3 : Int32)) S.1 S.2.1 dX6_sees_31 (by decide) ?_
          obtain ⟨rfl, rfl⟩ := s2 h
          exact fl_iret S.1 S.2.1 hr hlocks hW dX6_sees_33
      · replace h := (if_neg c5).symm.trans h
        refine lv_iconst (v := (-1 : Int32)) S.1 S.2.1 dX6_sees_17 (by decide) ?_
        obtain ⟨rfl, rfl⟩ := s2 h
        exact fl_iret S.1 S.2.1 hr hlocks hW dX6_sees_18
def fX6_forget (M : Mm) : Option (Int32 × Mm) :=
  lt (wI M 61 2 (0 : Int32)) (fun (M1 : Mm) => some (M.1 61 2, M1))
set_option maxHeartbeats 4000000 in
set_option maxRecDepth 100000 in
theorem kX6_forget (l : Launch) {D : va_G} {cy : Nat → ClassId} {ad : Nat → Nat} (hJ : Inj ad 80)   (M : Mm) (r : Int32) (M' : Mm) (h : fX6_forget M = some (r, M')) : Met l yX6_forget vX6_forget ({ frames := 0, cells := 0, slots := 0, locals := 0 } : Room) (PcF [.ref (ad 0)] D cy ad kdV shC rfC 80 M) (QcI r D cy ad kdV shC rfC 80 M') 0 0 (AV ad 80) := by
  refine Met.ofW (cc := cX6_forget) (maxL := 2) (ret := (some .int)) (by decide) rfl ?_
  intro p e s m args below meth c s₁ B hml hv
  obtain ⟨rfl, hP, hK, hN⟩ := hv
  have hr := B.returns
  have hlocks := B.notSynchronized
  have S : CallFix p m c cX6_forget 2 s ([.ref (ad 0)] : List Value).toArray vX6_forget RX6 := ⟨B.exec, B.bytes, hml, findClass_of_methodNamed B.named, atoms_spec (ws := vX6_forget) B.pre⟩
  have hq : ∀ w ∈ GW, w.before ([.ref (ad 0)] : List Value).toArray s = true := fun w h => S.2.2.2.2 w (List.mem_cons_of_mem _ h)
  have hA : ∀ k, k < 80 → AV ad 80 (ad k) := fun k hk => ⟨k, hk, rfl⟩
  have hW : WSt D cy ad kdV shC rfC 80 (AV ad 80) M s.heap s.heap [] := ⟨hP, va_S.rf⟩
  clear hP
  have iX3 : ∀ w ∈ wsX30, w ∈ vX6_forget := fun w h => List.mem_cons_of_mem _ (inX3 w h)
  have iX6 : ∀ w ∈ wsX60, w ∈ vX6_forget := fun w h => List.mem_cons_of_mem _ (inX6 w h)
  have hl := lv_entry ([.ref (ad 0)]) (n := 2) (Nat.le_of_ble_eq_true rfl)
  rw [lg_entry_eq]
  generalize (lg_sl ([.ref (ad 0)]) ++ List.replicate (2 - (lg_sl ([.ref (ad 0)])).length) Slot.unset).toArray = ls at hl ⊢
  have hl : lv_has ls 2 [(0, .ref (ad 0))] := hl
  rw [fX6_forget] at h
  refine lv_aload_n S.1 S.2.1 dX6_forget_0 rfl (lv_at hl 0 rfl) ?_
  refine fl_get S hK iX6 rfl lC_0 sC_0 6 (by decide) (hq _ q_136) (fun _ h9 => h9) (fvs_R rfl rfl) hW dX6_forget_1 ?_
  refine fl_getN S hK iX3 rfl lC_61 sC_61 2 (by decide) (hN.f 12 rfl) (fun _ h9 => h9) (fvs_I rfl) hW dX6_forget_4 ?_
  refine lv_istore_n (lv' := [(1, .int (M.1 61 2)), (0, .ref (ad 0))]) S.1 S.2.1 dX6_forget_7 rfl hl (by decide) rfl (fun ls hl => ?_)
  refine lv_aload_n S.1 S.2.1 dX6_forget_8 rfl (lv_at hl 1 rfl) ?_
  refine fl_get S hK iX6 rfl lC_0 sC_0 6 (by decide) (hq _ q_136) (fun _ h9 => h9) (fvs_R rfl rfl) hW dX6_forget_9 ?_
  refine lv_iconst (v := (0 : Int32)) S.1 S.2.1 dX6_forget_12 (by decide) ?_
  refine fl_putN S hK hJ hA tyX3 tyX3_ok nmX3 iX3 rfl lC_61 sC_61 2 (by decide) (hN.f 12 rfl) (fun _ h9 => h9) rfl (ty := .int) rfl rfl rfl (wI M 61 2 (0 : Int32)) (by decide) (fvs_setI _ _ _ _ _ _ _ rfl) (fun j _ hj => cof_wI_ne hj) hW dX6_forget_13 (fun H locs hW => ?_)
  obtain ⟨M1, e2, h⟩ := lt_some h
  rw [e2] at hW
  clear e2
  refine lv_iload_n S.1 S.2.1 dX6_forget_16 rfl (lv_at hl 0 rfl) ?_
  obtain ⟨rfl, rfl⟩ := s2 h
  exact fl_iret S.1 S.2.1 hr hlocks hW dX6_forget_17
def fX6_possibleAges_L4 (M : Mm) : Nat → Int32 → Int32 → Option (Int32 × Int32)
  | 0, _, _ => none
  | n + 1, x1, x2 => if (99 : Int32) < x2 then (some (x1, x2)) else (gd (isT (M.1 0 7).toNatClampNeg) (bP (fX3_allows ((M.1 0 7).toNatClampNeg) x2 M) (fun (v6 : Int32) => if v6 = 0 then (fX6_possibleAges_L4 M n x1 (x2 + (1 : Int32))) else (fX6_possibleAges_L4 M n (x1 + (1 : Int32)) (x2 + (1 : Int32))))))
def fX6_possibleAges (M : Mm) : Option (Int32) :=
  b2 (fX6_possibleAges_L4 M 50000 (0 : Int32) (0 : Int32)) (fun (w1 : Int32) (w2 : Int32) => some w1)
set_option maxHeartbeats 4000000 in
set_option maxRecDepth 100000 in
theorem kX6_possibleAges (l : Launch) {D : va_G} {cy : Nat → ClassId} {ad : Nat → Nat} (hJ : Inj ad 80)   (M : Mm) (r : Int32) (h : fX6_possibleAges M = some r) : Met l yX6_possibleAges vX6_possibleAges ({ frames := 2, cells := 0, slots := 0, locals := 45 } : Room) (PcF [.ref (ad 0)] D cy ad kdV shC rfC 80 M) (QcI r D cy ad kdV shC rfC 80 M) 0 0 (AV ad 80) := by
  refine Met.ofW (cc := cX6_possibleAges) (maxL := 3) (ret := (some .int)) (by decide) rfl ?_
  intro p e s m args below meth c s₁ B hml hv
  obtain ⟨rfl, hP, hK, hN⟩ := hv
  have hr := B.returns
  have hlocks := B.notSynchronized
  have S : CallFix p m c cX6_possibleAges 3 s ([.ref (ad 0)] : List Value).toArray vX6_possibleAges RX6 := ⟨B.exec, B.bytes, hml, findClass_of_methodNamed B.named, atoms_spec (ws := vX6_possibleAges) B.pre⟩
  have hq : ∀ w ∈ GW, w.before ([.ref (ad 0)] : List Value).toArray s = true := fun w h => S.2.2.2.2 w (List.mem_cons_of_mem _ h)
  have hA : ∀ k, k < 80 → AV ad 80 (ad k) := fun k hk => ⟨k, hk, rfl⟩
  have hW : WSt D cy ad kdV shC rfC 80 (AV ad 80) M s.heap s.heap [] := ⟨hP, va_S.rf⟩
  clear hP
  have iX6 : ∀ w ∈ wsX60, w ∈ vX6_possibleAges := fun w h => List.mem_cons_of_mem _ (inX6 w h)
  have hl := lv_entry ([.ref (ad 0)]) (n := 3) (Nat.le_of_ble_eq_true rfl)
  rw [lg_entry_eq]
  generalize (lg_sl ([.ref (ad 0)]) ++ List.replicate (3 - (lg_sl ([.ref (ad 0)])).length) Slot.unset).toArray = ls at hl ⊢
  have hl : lv_has ls 3 [(0, .ref (ad 0))] := hl
  rw [fX6_possibleAges] at h
  refine lv_iconst (v := (0 : Int32)) S.1 S.2.1 dX6_possibleAges_0 (by decide) ?_
  refine lv_istore_n (lv' := [(1, .int (0 : Int32)), (0, .ref (ad 0))]) S.1 S.2.1 dX6_possibleAges_1 rfl hl (by decide) rfl (fun ls hl => ?_)
  refine lv_iconst (v := (0 : Int32)) S.1 S.2.1 dX6_possibleAges_2 (by decide) ?_
  refine lv_istore_n (lv' := [(2, .int (0 : Int32)), (1, .int (0 : Int32)), (0, .ref (ad 0))]) S.1 S.2.1 dX6_possibleAges_3 rfl hl (by decide) rfl (fun ls hl => ?_)
  have L4 : ∀ (n : Nat) (x1 : Int32) (x2 : Int32) (w1 : Int32) (w2 : Int32), fX6_possibleAges_L4 M n x1 x2 = some (w1, w2) → ∀ (H : Heap) (locs : List Loc) (ls : Array Slot), lv_has ls 3 [(0, .ref (ad 0)), (1, .int x1), (2, .int x2)] → WSt D cy ad kdV shC rfC 80 (AV ad 80) M s.heap H locs → (∀ (H : Heap) (locs : List Loc) (ls : Array Slot), lv_has ls 3 [(0, .ref (ad 0)), (1, .int w1), (2, .int w2)] → WSt D cy ad kdV shC rfC 80 (AV ad 80) M s.heap H locs → W p l e (headSpec vX6_possibleAges ({ frames := 2, cells := 0, slots := 0, locals := 45 } : Room)).room s m ([.ref (ad 0)] : List Value).toArray below meth c H locs 0 0 (MQ below (QcI r D cy ad kdV shC rfC 80 M) ([.ref (ad 0)] : List Value).toArray s 0 0 (AV ad 80)) (F0 m 34 ls [])) → W p l e (headSpec vX6_possibleAges ({ frames := 2, cells := 0, slots := 0, locals := 45 } : Room)).room s m ([.ref (ad 0)] : List Value).toArray below meth c H locs 0 0 (MQ below (QcI r D cy ad kdV shC rfC 80 M) ([.ref (ad 0)] : List Value).toArray s 0 0 (AV ad 80)) (F0 m 4 ls []) := by
    intro n
    induction n with
    | zero => intro x1 x2 w1 w2 h; cases h
    | succ n ih =>
      intro x1 x2 w1 w2 h H locs ls hl hW K
      rw [fX6_possibleAges_L4] at h
      refine lv_iload_n S.1 S.2.1 dX6_possibleAges_4 rfl (lv_at hl 2 rfl) ?_
      refine lv_bipush (v := (99 : Int32)) S.1 S.2.1 dX6_possibleAges_5 (by decide) ?_
      refine lv_icmp_gt (tgt := 34) S.1 S.2.1 dX6_possibleAges_7 (by decide) (fun c3 => ?_) (fun c3 => ?_)
      · replace h := (if_pos c3).symm.trans h
        obtain ⟨rfl, rfl⟩ := s2 h
        exact K _ _ _ hl hW
      · replace h := (if_neg c3).symm.trans h
        refine lv_aload_n S.1 S.2.1 dX6_possibleAges_10 rfl (lv_at hl 0 rfl) ?_
        refine fl_get S hK iX6 rfl lC_0 sC_0 6 (by decide) (hq _ q_136) (fun _ h9 => h9) (fvs_R rfl rfl) hW dX6_possibleAges_11 ?_
        refine lv_aload_n S.1 S.2.1 dX6_possibleAges_14 rfl (lv_at hl 0 rfl) ?_
        obtain ⟨t4k, h⟩ := gd_some h
        obtain ⟨⟨t4l0, t4s0⟩, ⟨t4l1, t4s1⟩, ⟨t4l2, t4s2⟩, ⟨t4l3, t4s3⟩, t4r0, t4r1, t4r2⟩ := isT_ok t4k
        refine fl_get S hK iX6 rfl lC_0 sC_0 7 (by decide) (hq _ q_131) (fun _ h9 => h9) (fvs_D rfl) hW dX6_possibleAges_15 ?_
        refine lv_iload_n S.1 S.2.1 dX6_possibleAges_18 rfl (lv_at hl 2 rfl) ?_
        obtain ⟨v6, u5, h⟩ := bP_some h
        refine fl_doneI (fl_runVN S hK hN (kX3_allows l hJ ((M.1 0 7).toNatClampNeg) t4k x2 M v6 u5) ⟨va_cnB 2 S.2.2.2.2 (gN q_232) rfl rfl rfl (hN.m 31 rfl) (hq _ q_229) (by decide +kernel) ⟨Nat.le_of_ble_eq_true rfl, Nat.le_of_ble_eq_true rfl⟩, (hq _ q_233), (hq _ q_234)⟩ (ci := 3) rfl lC_61 sC_61 rfl hl.1 rfl (Nat.le_of_ble_eq_true rfl) dX6_possibleAges_19 ⟨Nat.zero_le _, Nat.zero_le _⟩ hW) hA hW.2 (fun H locs hW => ?_)
        refine lv_if_eq (tgt := 28) S.1 S.2.1 dX6_possibleAges_22 (by decide) (fun c7 => ?_) (fun c7 => ?_)
        · replace h := (if_pos c7).symm.trans h
          refine lv_iinc (v := x2 + (1 : Int32)) (lv' := [(2, .int (x2 + (1 : Int32))), (0, .ref (ad 0)), (1, .int x1)]) S.1 S.2.1 dX6_possibleAges_28 hl (k := 2) rfl rfl (by decide) rfl (fun ls hl => ?_)
          refine lv_goto (tgt := 4) S.1 S.2.1 dX6_possibleAges_31 (by decide) ?_
          exact ih _ _ _ _ h _ _ _ (lv_sub hl [1, 2, 0] rfl) hW K
        · replace h := (if_neg c7).symm.trans h
          refine lv_iinc (v := x1 + (1 : Int32)) (lv' := [(1, .int (x1 + (1 : Int32))), (0, .ref (ad 0)), (2, .int x2)]) S.1 S.2.1 dX6_possibleAges_25 hl (k := 1) rfl rfl (by decide) rfl (fun ls hl => ?_)
          refine lv_iinc (v := x2 + (1 : Int32)) (lv' := [(2, .int (x2 + (1 : Int32))), (1, .int (x1 + (1 : Int32))), (0, .ref (ad 0))]) S.1 S.2.1 dX6_possibleAges_28 hl (k := 2) rfl rfl (by decide) rfl (fun ls hl => ?_)
          refine lv_goto (tgt := 4) S.1 S.2.1 dX6_possibleAges_31 (by decide) ?_
          exact ih _ _ _ _ h _ _ _ (lv_sub hl [2, 1, 0] rfl) hW K
  obtain ⟨w1, w2, u8, h⟩ := b2_some h
  refine L4 50000 _ _ _ _ u8 _ _ _ (lv_sub hl [2, 1, 0] rfl) hW (fun H locs ls hl hW => ?_)
  clear L4
  refine lv_iload_n S.1 S.2.1 dX6_possibleAges_34 rfl (lv_at hl 1 rfl) ?_
  obtain rfl := s1 h
  exact fl_iret S.1 S.2.1 hr hlocks hW dX6_possibleAges_35
def fX6_leastAge_L2 (M : Mm) : Nat → Int32 → Option ((Int32) ⊕ (Int32))
  | 0, _ => none
  | n + 1, x1 => if (99 : Int32) < x1 then (some (.inl x1)) else (gd (isT (M.1 0 7).toNatClampNeg) (bP (fX3_allows ((M.1 0 7).toNatClampNeg) x1 M) (fun (v5 : Int32) => if v5 = 0 then (fX6_leastAge_L2 M n (x1 + (1 : Int32))) else (some (.inr x1)))))
def fX6_leastAge (M : Mm) : Option (Int32) :=
  bS (fX6_leastAge_L2 M 50000 (0 : Int32)) (fun o8 => (fun (w1 : Int32) => some (-9 : Int32)) o8) (fun o8 => some o8)
set_option maxHeartbeats 4000000 in
set_option maxRecDepth 100000 in
theorem kX6_leastAge (l : Launch) {D : va_G} {cy : Nat → ClassId} {ad : Nat → Nat} (hJ : Inj ad 80)   (M : Mm) (r : Int32) (h : fX6_leastAge M = some r) : Met l yX6_leastAge vX6_leastAge ({ frames := 2, cells := 0, slots := 0, locals := 45 } : Room) (PcF [.ref (ad 0)] D cy ad kdV shC rfC 80 M) (QcI r D cy ad kdV shC rfC 80 M) 0 0 (AV ad 80) := by
  refine Met.ofW (cc := cX6_leastAge) (maxL := 2) (ret := (some .int)) (by decide) rfl ?_
  intro p e s m args below meth c s₁ B hml hv
  obtain ⟨rfl, hP, hK, hN⟩ := hv
  have hr := B.returns
  have hlocks := B.notSynchronized
  have S : CallFix p m c cX6_leastAge 2 s ([.ref (ad 0)] : List Value).toArray vX6_leastAge RX6 := ⟨B.exec, B.bytes, hml, findClass_of_methodNamed B.named, atoms_spec (ws := vX6_leastAge) B.pre⟩
  have hq : ∀ w ∈ GW, w.before ([.ref (ad 0)] : List Value).toArray s = true := fun w h => S.2.2.2.2 w (List.mem_cons_of_mem _ h)
  have hA : ∀ k, k < 80 → AV ad 80 (ad k) := fun k hk => ⟨k, hk, rfl⟩
  have hW : WSt D cy ad kdV shC rfC 80 (AV ad 80) M s.heap s.heap [] := ⟨hP, va_S.rf⟩
  clear hP
  have iX6 : ∀ w ∈ wsX60, w ∈ vX6_leastAge := fun w h => List.mem_cons_of_mem _ (inX6 w h)
  have hl := lv_entry ([.ref (ad 0)]) (n := 2) (Nat.le_of_ble_eq_true rfl)
  rw [lg_entry_eq]
  generalize (lg_sl ([.ref (ad 0)]) ++ List.replicate (2 - (lg_sl ([.ref (ad 0)])).length) Slot.unset).toArray = ls at hl ⊢
  have hl : lv_has ls 2 [(0, .ref (ad 0))] := hl
  rw [fX6_leastAge] at h
  refine lv_iconst (v := (0 : Int32)) S.1 S.2.1 dX6_leastAge_0 (by decide) ?_
  refine lv_istore_n (lv' := [(1, .int (0 : Int32)), (0, .ref (ad 0))]) S.1 S.2.1 dX6_leastAge_1 rfl hl (by decide) rfl (fun ls hl => ?_)
  have L2 : ∀ (n : Nat) (x1 : Int32) (o : (Int32) ⊕ (Int32)), fX6_leastAge_L2 M n x1 = some o → ∀ (H : Heap) (locs : List Loc) (ls : Array Slot), lv_has ls 2 [(0, .ref (ad 0)), (1, .int x1)] → WSt D cy ad kdV shC rfC 80 (AV ad 80) M s.heap H locs → (∀ (w1 : Int32), o = .inl w1 → ∀ (H : Heap) (locs : List Loc) (ls : Array Slot), lv_has ls 2 [(0, .ref (ad 0)), (1, .int w1)] → WSt D cy ad kdV shC rfC 80 (AV ad 80) M s.heap H locs → W p l e (headSpec vX6_leastAge ({ frames := 2, cells := 0, slots := 0, locals := 45 } : Room)).room s m ([.ref (ad 0)] : List Value).toArray below meth c H locs 0 0 (MQ below (QcI r D cy ad kdV shC rfC 80 M) ([.ref (ad 0)] : List Value).toArray s 0 0 (AV ad 80)) (F0 m 31 ls [])) → (∀ (rr : Int32), o = .inr rr → ∀ (H : Heap) (locs : List Loc) (ls : Array Slot) (pc : Nat), WSt D cy ad kdV shC rfC 80 (AV ad 80) M s.heap H locs → decode cX6_leastAge pc = .ok (.ireturn, 1) → W p l e (headSpec vX6_leastAge ({ frames := 2, cells := 0, slots := 0, locals := 45 } : Room)).room s m ([.ref (ad 0)] : List Value).toArray below meth c H locs 0 0 (MQ below (QcI r D cy ad kdV shC rfC 80 M) ([.ref (ad 0)] : List Value).toArray s 0 0 (AV ad 80)) (F0 m pc ls [.int rr])) → W p l e (headSpec vX6_leastAge ({ frames := 2, cells := 0, slots := 0, locals := 45 } : Room)).room s m ([.ref (ad 0)] : List Value).toArray below meth c H locs 0 0 (MQ below (QcI r D cy ad kdV shC rfC 80 M) ([.ref (ad 0)] : List Value).toArray s 0 0 (AV ad 80)) (F0 m 2 ls []) := by
    intro n
    induction n with
    | zero => intro x1 o h; cases h
    | succ n ih =>
      intro x1 o h H locs ls hl hW K K2
      rw [fX6_leastAge_L2] at h
      refine lv_iload_n S.1 S.2.1 dX6_leastAge_2 rfl (lv_at hl 1 rfl) ?_
      refine lv_bipush (v := (99 : Int32)) S.1 S.2.1 dX6_leastAge_3 (by decide) ?_
      refine lv_icmp_gt (tgt := 31) S.1 S.2.1 dX6_leastAge_5 (by decide) (fun c2 => ?_) (fun c2 => ?_)
      · replace h := (if_pos c2).symm.trans h
        exact K _ (Option.some.inj h).symm _ _ _ hl hW
      · replace h := (if_neg c2).symm.trans h
        refine lv_aload_n S.1 S.2.1 dX6_leastAge_8 rfl (lv_at hl 0 rfl) ?_
        refine fl_get S hK iX6 rfl lC_0 sC_0 6 (by decide) (hq _ q_136) (fun _ h9 => h9) (fvs_R rfl rfl) hW dX6_leastAge_9 ?_
        refine lv_aload_n S.1 S.2.1 dX6_leastAge_12 rfl (lv_at hl 0 rfl) ?_
        obtain ⟨t3k, h⟩ := gd_some h
        obtain ⟨⟨t3l0, t3s0⟩, ⟨t3l1, t3s1⟩, ⟨t3l2, t3s2⟩, ⟨t3l3, t3s3⟩, t3r0, t3r1, t3r2⟩ := isT_ok t3k
        refine fl_get S hK iX6 rfl lC_0 sC_0 7 (by decide) (hq _ q_131) (fun _ h9 => h9) (fvs_D rfl) hW dX6_leastAge_13 ?_
        refine lv_iload_n S.1 S.2.1 dX6_leastAge_16 rfl (lv_at hl 1 rfl) ?_
        obtain ⟨v5, u4, h⟩ := bP_some h
        refine fl_doneI (fl_runVN S hK hN (kX3_allows l hJ ((M.1 0 7).toNatClampNeg) t3k x1 M v5 u4) ⟨va_cnB 2 S.2.2.2.2 (gN q_232) rfl rfl rfl (hN.m 31 rfl) (hq _ q_229) (by decide +kernel) ⟨Nat.le_of_ble_eq_true rfl, Nat.le_of_ble_eq_true rfl⟩, (hq _ q_233), (hq _ q_234)⟩ (ci := 3) rfl lC_61 sC_61 rfl hl.1 rfl (Nat.le_of_ble_eq_true rfl) dX6_leastAge_17 ⟨Nat.zero_le _, Nat.zero_le _⟩ hW) hA hW.2 (fun H locs hW => ?_)
        refine lv_if_eq (tgt := 25) S.1 S.2.1 dX6_leastAge_20 (by decide) (fun c6 => ?_) (fun c6 => ?_)
        · replace h := (if_pos c6).symm.trans h
          refine lv_iinc (v := x1 + (1 : Int32)) (lv' := [(1, .int (x1 + (1 : Int32))), (0, .ref (ad 0))]) S.1 S.2.1 dX6_leastAge_25 hl (k := 1) rfl rfl (by decide) rfl (fun ls hl => ?_)
          refine lv_goto (tgt := 2) S.1 S.2.1 dX6_leastAge_28 (by decide) ?_
          exact ih _ _ h _ _ _ (lv_sub hl [1, 0] rfl) hW K K2
        · replace h := (if_neg c6).symm.trans h
          refine lv_iload_n S.1 S.2.1 dX6_leastAge_23 rfl (lv_at hl 1 rfl) ?_
          exact K2 _ (Option.some.inj h).symm _ _ _ _ hW dX6_leastAge_24
  rcases bS_some h with ⟨o8, u7, h⟩ | ⟨o8, u7, h⟩
  · obtain ⟨w1, rfl⟩ : ∃ z, z = o8 := ⟨_, rfl⟩
    refine L2 50000 _ _ u7 _ _ _ (lv_sub hl [1, 0] rfl) hW (fun w1z e H locs ls hl hW => ?_) (fun rr e => by cases e)
    cases e
    refine lv_bipush (v := (-9 : Int32)) S.1 S.2.1 dX6_leastAge_31 (by decide) ?_
    obtain rfl := s1 h
    exact fl_iret S.1 S.2.1 hr hlocks hW dX6_leastAge_33
  · refine L2 50000 _ _ u7 _ _ _ (lv_sub hl [1, 0] rfl) hW (fun _ e => by cases e) (fun rr e H locs ls pc hW hd => ?_)
    cases e
    obtain rfl := s1 h
    exact fl_iret S.1 S.2.1 hr hlocks hW hd
def fX6_greatestAge_L3 (M : Mm) : Nat → Int32 → Option ((Int32) ⊕ (Int32))
  | 0, _ => none
  | n + 1, x1 => if x1 < 0 then (some (.inl x1)) else (gd (isT (M.1 0 7).toNatClampNeg) (bP (fX3_allows ((M.1 0 7).toNatClampNeg) x1 M) (fun (v5 : Int32) => if v5 = 0 then (fX6_greatestAge_L3 M n (x1 + (-1 : Int32))) else (some (.inr x1)))))
def fX6_greatestAge (M : Mm) : Option (Int32) :=
  bS (fX6_greatestAge_L3 M 50000 (99 : Int32)) (fun o8 => (fun (w1 : Int32) => some (-9 : Int32)) o8) (fun o8 => some o8)
set_option maxHeartbeats 4000000 in
set_option maxRecDepth 100000 in
theorem kX6_greatestAge (l : Launch) {D : va_G} {cy : Nat → ClassId} {ad : Nat → Nat} (hJ : Inj ad 80)   (M : Mm) (r : Int32) (h : fX6_greatestAge M = some r) : Met l yX6_greatestAge vX6_greatestAge ({ frames := 2, cells := 0, slots := 0, locals := 45 } : Room) (PcF [.ref (ad 0)] D cy ad kdV shC rfC 80 M) (QcI r D cy ad kdV shC rfC 80 M) 0 0 (AV ad 80) := by
  refine Met.ofW (cc := cX6_greatestAge) (maxL := 2) (ret := (some .int)) (by decide) rfl ?_
  intro p e s m args below meth c s₁ B hml hv
  obtain ⟨rfl, hP, hK, hN⟩ := hv
  have hr := B.returns
  have hlocks := B.notSynchronized
  have S : CallFix p m c cX6_greatestAge 2 s ([.ref (ad 0)] : List Value).toArray vX6_greatestAge RX6 := ⟨B.exec, B.bytes, hml, findClass_of_methodNamed B.named, atoms_spec (ws := vX6_greatestAge) B.pre⟩
  have hq : ∀ w ∈ GW, w.before ([.ref (ad 0)] : List Value).toArray s = true := fun w h => S.2.2.2.2 w (List.mem_cons_of_mem _ h)
  have hA : ∀ k, k < 80 → AV ad 80 (ad k) := fun k hk => ⟨k, hk, rfl⟩
  have hW : WSt D cy ad kdV shC rfC 80 (AV ad 80) M s.heap s.heap [] := ⟨hP, va_S.rf⟩
  clear hP
  have iX6 : ∀ w ∈ wsX60, w ∈ vX6_greatestAge := fun w h => List.mem_cons_of_mem _ (inX6 w h)
  have hl := lv_entry ([.ref (ad 0)]) (n := 2) (Nat.le_of_ble_eq_true rfl)
  rw [lg_entry_eq]
  generalize (lg_sl ([.ref (ad 0)]) ++ List.replicate (2 - (lg_sl ([.ref (ad 0)])).length) Slot.unset).toArray = ls at hl ⊢
  have hl : lv_has ls 2 [(0, .ref (ad 0))] := hl
  rw [fX6_greatestAge] at h
  refine lv_bipush (v := (99 : Int32)) S.1 S.2.1 dX6_greatestAge_0 (by decide) ?_
  refine lv_istore_n (lv' := [(1, .int (99 : Int32)), (0, .ref (ad 0))]) S.1 S.2.1 dX6_greatestAge_2 rfl hl (by decide) rfl (fun ls hl => ?_)
  have L3 : ∀ (n : Nat) (x1 : Int32) (o : (Int32) ⊕ (Int32)), fX6_greatestAge_L3 M n x1 = some o → ∀ (H : Heap) (locs : List Loc) (ls : Array Slot), lv_has ls 2 [(0, .ref (ad 0)), (1, .int x1)] → WSt D cy ad kdV shC rfC 80 (AV ad 80) M s.heap H locs → (∀ (w1 : Int32), o = .inl w1 → ∀ (H : Heap) (locs : List Loc) (ls : Array Slot), lv_has ls 2 [(0, .ref (ad 0)), (1, .int w1)] → WSt D cy ad kdV shC rfC 80 (AV ad 80) M s.heap H locs → W p l e (headSpec vX6_greatestAge ({ frames := 2, cells := 0, slots := 0, locals := 45 } : Room)).room s m ([.ref (ad 0)] : List Value).toArray below meth c H locs 0 0 (MQ below (QcI r D cy ad kdV shC rfC 80 M) ([.ref (ad 0)] : List Value).toArray s 0 0 (AV ad 80)) (F0 m 30 ls [])) → (∀ (rr : Int32), o = .inr rr → ∀ (H : Heap) (locs : List Loc) (ls : Array Slot) (pc : Nat), WSt D cy ad kdV shC rfC 80 (AV ad 80) M s.heap H locs → decode cX6_greatestAge pc = .ok (.ireturn, 1) → W p l e (headSpec vX6_greatestAge ({ frames := 2, cells := 0, slots := 0, locals := 45 } : Room)).room s m ([.ref (ad 0)] : List Value).toArray below meth c H locs 0 0 (MQ below (QcI r D cy ad kdV shC rfC 80 M) ([.ref (ad 0)] : List Value).toArray s 0 0 (AV ad 80)) (F0 m pc ls [.int rr])) → W p l e (headSpec vX6_greatestAge ({ frames := 2, cells := 0, slots := 0, locals := 45 } : Room)).room s m ([.ref (ad 0)] : List Value).toArray below meth c H locs 0 0 (MQ below (QcI r D cy ad kdV shC rfC 80 M) ([.ref (ad 0)] : List Value).toArray s 0 0 (AV ad 80)) (F0 m 3 ls []) := by
    intro n
    induction n with
    | zero => intro x1 o h; cases h
    | succ n ih =>
      intro x1 o h H locs ls hl hW K K2
      rw [fX6_greatestAge_L3] at h
      refine lv_iload_n S.1 S.2.1 dX6_greatestAge_3 rfl (lv_at hl 1 rfl) ?_
      refine lv_if_lt (tgt := 30) S.1 S.2.1 dX6_greatestAge_4 (by decide) (fun c2 => ?_) (fun c2 => ?_)
      · replace h := (if_pos c2).symm.trans h
        exact K _ (Option.some.inj h).symm _ _ _ hl hW
      · replace h := (if_neg c2).symm.trans h
        refine lv_aload_n S.1 S.2.1 dX6_greatestAge_7 rfl (lv_at hl 0 rfl) ?_
        refine fl_get S hK iX6 rfl lC_0 sC_0 6 (by decide) (hq _ q_136) (fun _ h9 => h9) (fvs_R rfl rfl) hW dX6_greatestAge_8 ?_
        refine lv_aload_n S.1 S.2.1 dX6_greatestAge_11 rfl (lv_at hl 0 rfl) ?_
        obtain ⟨t3k, h⟩ := gd_some h
        obtain ⟨⟨t3l0, t3s0⟩, ⟨t3l1, t3s1⟩, ⟨t3l2, t3s2⟩, ⟨t3l3, t3s3⟩, t3r0, t3r1, t3r2⟩ := isT_ok t3k
        refine fl_get S hK iX6 rfl lC_0 sC_0 7 (by decide) (hq _ q_131) (fun _ h9 => h9) (fvs_D rfl) hW dX6_greatestAge_12 ?_
        refine lv_iload_n S.1 S.2.1 dX6_greatestAge_15 rfl (lv_at hl 1 rfl) ?_
        obtain ⟨v5, u4, h⟩ := bP_some h
        refine fl_doneI (fl_runVN S hK hN (kX3_allows l hJ ((M.1 0 7).toNatClampNeg) t3k x1 M v5 u4) ⟨va_cnB 2 S.2.2.2.2 (gN q_232) rfl rfl rfl (hN.m 31 rfl) (hq _ q_229) (by decide +kernel) ⟨Nat.le_of_ble_eq_true rfl, Nat.le_of_ble_eq_true rfl⟩, (hq _ q_233), (hq _ q_234)⟩ (ci := 3) rfl lC_61 sC_61 rfl hl.1 rfl (Nat.le_of_ble_eq_true rfl) dX6_greatestAge_16 ⟨Nat.zero_le _, Nat.zero_le _⟩ hW) hA hW.2 (fun H locs hW => ?_)
        refine lv_if_eq (tgt := 24) S.1 S.2.1 dX6_greatestAge_19 (by decide) (fun c6 => ?_) (fun c6 => ?_)
        · replace h := (if_pos c6).symm.trans h
          refine lv_iinc (v := x1 + (-1 : Int32)) (lv' := [(1, .int (x1 + (-1 : Int32))), (0, .ref (ad 0))]) S.1 S.2.1 dX6_greatestAge_24 hl (k := 1) rfl rfl (by decide) rfl (fun ls hl => ?_)
          refine lv_goto (tgt := 3) S.1 S.2.1 dX6_greatestAge_27 (by decide) ?_
          exact ih _ _ h _ _ _ (lv_sub hl [1, 0] rfl) hW K K2
        · replace h := (if_neg c6).symm.trans h
          refine lv_iload_n S.1 S.2.1 dX6_greatestAge_22 rfl (lv_at hl 1 rfl) ?_
          exact K2 _ (Option.some.inj h).symm _ _ _ _ hW dX6_greatestAge_23
  rcases bS_some h with ⟨o8, u7, h⟩ | ⟨o8, u7, h⟩
  · obtain ⟨w1, rfl⟩ : ∃ z, z = o8 := ⟨_, rfl⟩
    refine L3 50000 _ _ u7 _ _ _ (lv_sub hl [1, 0] rfl) hW (fun w1z e H locs ls hl hW => ?_) (fun rr e => by cases e)
    cases e
    refine lv_bipush (v := (-9 : Int32)) S.1 S.2.1 dX6_greatestAge_30 (by decide) ?_
    obtain rfl := s1 h
    exact fl_iret S.1 S.2.1 hr hlocks hW dX6_greatestAge_32
  · refine L3 50000 _ _ u7 _ _ _ (lv_sub hl [1, 0] rfl) hW (fun _ e => by cases e) (fun rr e H locs ls pc hW hd => ?_)
    cases e
    obtain rfl := s1 h
    exact fl_iret S.1 S.2.1 hr hlocks hW hd
def fX6_ages (p1 : Int32) (M : Mm) : Option (Int32) :=
  if p1 = (0 : Int32) then (bP (fX6_possibleAges M) (fun (v5 : Int32) => some v5)) else (if p1 = (1 : Int32) then (bP (fX6_leastAge M) (fun (v7 : Int32) => some v7)) else (if p1 = (2 : Int32) then (bP (fX6_greatestAge M) (fun (v9 : Int32) => some v9)) else (some (-1 : Int32))))
set_option maxHeartbeats 4000000 in
set_option maxRecDepth 100000 in
theorem kX6_ages (l : Launch) {D : va_G} {cy : Nat → ClassId} {ad : Nat → Nat} (hJ : Inj ad 80)  (p1 : Int32) (M : Mm) (r : Int32) (h : fX6_ages p1 M = some r) : Met l yX6_ages vX6_ages ({ frames := 3, cells := 0, slots := 0, locals := 67 } : Room) (PcF [.ref (ad 0), .int p1] D cy ad kdV shC rfC 80 M) (QcI r D cy ad kdV shC rfC 80 M) 0 0 (AV ad 80) := by
  refine Met.ofW (cc := cX6_ages) (maxL := 2) (ret := (some .int)) (by decide) rfl ?_
  intro p e s m args below meth c s₁ B hml hv
  obtain ⟨rfl, hP, hK, hN⟩ := hv
  have hr := B.returns
  have hlocks := B.notSynchronized
  have S : CallFix p m c cX6_ages 2 s ([.ref (ad 0), .int p1] : List Value).toArray vX6_ages RX6 := ⟨B.exec, B.bytes, hml, findClass_of_methodNamed B.named, atoms_spec (ws := vX6_ages) B.pre⟩
  have hq : ∀ w ∈ GW, w.before ([.ref (ad 0), .int p1] : List Value).toArray s = true := fun w h => S.2.2.2.2 w (List.mem_cons_of_mem _ h)
  have hA : ∀ k, k < 80 → AV ad 80 (ad k) := fun k hk => ⟨k, hk, rfl⟩
  have hW : WSt D cy ad kdV shC rfC 80 (AV ad 80) M s.heap s.heap [] := ⟨hP, va_S.rf⟩
  clear hP
  have hl := lv_entry ([.ref (ad 0), .int p1]) (n := 2) (Nat.le_of_ble_eq_true rfl)
  rw [lg_entry_eq]
  generalize (lg_sl ([.ref (ad 0), .int p1]) ++ List.replicate (2 - (lg_sl ([.ref (ad 0), .int p1])).length) Slot.unset).toArray = ls at hl ⊢
  have hl : lv_has ls 2 [(0, .ref (ad 0)), (1, .int p1)] := hl
  rw [fX6_ages] at h
  refine lv_iload_n S.1 S.2.1 dX6_ages_0 rfl (lv_at hl 1 rfl) ?_
  by_cases c1 : p1 = (0 : Int32)
  · replace h := (if_pos c1).symm.trans h
    refine lv_tableIn (off := 27) (tgt := 28) S.1 S.2.1 dX6_ages_1 (by rw [c1]; decide) (by rw [c1]; decide) (by rw [c1]; rfl) (by decide) ?_
    refine lv_aload_n S.1 S.2.1 dX6_ages_28 rfl (lv_at hl 0 rfl) ?_
    obtain ⟨v5, u4, h⟩ := bP_some h
    refine fl_doneI (fl_runV S hK hN (kX6_possibleAges l hJ M v5 u4) (cwV 0 S.2.2.2.2 (gV q_236 q_237 q_238 q_3 q_235) rfl rfl rfl (by decide +kernel) ⟨Nat.le_of_ble_eq_true rfl, Nat.le_of_ble_eq_true rfl⟩) (ci := 6) rfl lC_0 sC_0 rfl hl.1 rfl (Nat.le_of_ble_eq_true rfl) dX6_ages_29 ⟨Nat.zero_le _, Nat.zero_le _⟩ hW) hA hW.2 (fun H locs hW => ?_)
    obtain rfl := s1 h
    exact fl_iret S.1 S.2.1 hr hlocks hW dX6_ages_32
  · replace h := (if_neg c1).symm.trans h
    by_cases c2 : p1 = (1 : Int32)
    · replace h := (if_pos c2).symm.trans h
      refine lv_tableIn (off := 32) (tgt := 33) S.1 S.2.1 dX6_ages_1 (by rw [c2]; decide) (by rw [c2]; decide) (by rw [c2]; rfl) (by decide) ?_
      refine lv_aload_n S.1 S.2.1 dX6_ages_33 rfl (lv_at hl 0 rfl) ?_
      obtain ⟨v7, u6, h⟩ := bP_some h
      refine fl_doneI (fl_runV S hK hN (kX6_leastAge l hJ M v7 u6) (cwV 0 S.2.2.2.2 (gV q_240 q_241 q_242 q_3 q_239) rfl rfl rfl (by decide +kernel) ⟨Nat.le_of_ble_eq_true rfl, Nat.le_of_ble_eq_true rfl⟩) (ci := 6) rfl lC_0 sC_0 rfl hl.1 rfl (Nat.le_of_ble_eq_true rfl) dX6_ages_34 ⟨Nat.zero_le _, Nat.zero_le _⟩ hW) hA hW.2 (fun H locs hW => ?_)
      obtain rfl := s1 h
      exact fl_iret S.1 S.2.1 hr hlocks hW dX6_ages_37
    · replace h := (if_neg c2).symm.trans h
      by_cases c3 : p1 = (2 : Int32)
      · replace h := (if_pos c3).symm.trans h
        refine lv_tableIn (off := 37) (tgt := 38) S.1 S.2.1 dX6_ages_1 (by rw [c3]; decide) (by rw [c3]; decide) (by rw [c3]; rfl) (by decide) ?_
        refine lv_aload_n S.1 S.2.1 dX6_ages_38 rfl (lv_at hl 0 rfl) ?_
        obtain ⟨v9, u8, h⟩ := bP_some h
        refine fl_doneI (fl_runV S hK hN (kX6_greatestAge l hJ M v9 u8) (cwV 0 S.2.2.2.2 (gV q_244 q_245 q_246 q_3 q_243) rfl rfl rfl (by decide +kernel) ⟨Nat.le_of_ble_eq_true rfl, Nat.le_of_ble_eq_true rfl⟩) (ci := 6) rfl lC_0 sC_0 rfl hl.1 rfl (Nat.le_of_ble_eq_true rfl) dX6_ages_39 ⟨Nat.zero_le _, Nat.zero_le _⟩ hW) hA hW.2 (fun H locs hW => ?_)
        obtain rfl := s1 h
        exact fl_iret S.1 S.2.1 hr hlocks hW dX6_ages_42
      · replace h := (if_neg c3).symm.trans h
        refine lv_tableOut (tgt := 43) S.1 S.2.1 dX6_ages_1 (tsw_out (n := 3) (by decide) (by intro k hk; match k, hk with | 0, _ => exact c1 | 1, _ => exact c2 | 2, _ => exact c3 | k + 3, hk => omega)) (by decide) ?_
        refine lv_iconst (v := (-1 : Int32)) S.1 S.2.1 dX6_ages_43 (by decide) ?_
        obtain rfl := s1 h
        exact fl_iret S.1 S.2.1 hr hlocks hW dX6_ages_44
def fX6_possibleAgesAtWork_L4 (p1 : Int32) (M : Mm) : Nat → Int32 → Int32 → Option (Int32 × Int32)
  | 0, _, _ => none
  | n + 1, x2, x3 => if (99 : Int32) < x3 then (some (x2, x3)) else (gd (isT (M.1 0 7).toNatClampNeg) (bP (fX5_spans ((M.1 0 7).toNatClampNeg) p1 x3 M) (fun (v6 : Int32) => if v6 = 0 then (fX6_possibleAgesAtWork_L4 p1 M n x2 (x3 + (1 : Int32))) else (bP (fX3_allows ((M.1 0 7).toNatClampNeg) x3 M) (fun (v9 : Int32) => if v9 = 0 then (fX6_possibleAgesAtWork_L4 p1 M n x2 (x3 + (1 : Int32))) else (fX6_possibleAgesAtWork_L4 p1 M n (x2 + (1 : Int32)) (x3 + (1 : Int32))))))))
def fX6_possibleAgesAtWork (p1 : Int32) (M : Mm) : Option (Int32) :=
  b2 (fX6_possibleAgesAtWork_L4 p1 M 50000 (0 : Int32) (0 : Int32)) (fun (w1 : Int32) (w2 : Int32) => some w1)
set_option maxHeartbeats 4000000 in
set_option maxRecDepth 100000 in
theorem kX6_possibleAgesAtWork (l : Launch) {D : va_G} {cy : Nat → ClassId} {ad : Nat → Nat} (hJ : Inj ad 80)  (p1 : Int32) (M : Mm) (r : Int32) (h : fX6_possibleAgesAtWork p1 M = some r) : Met l yX6_possibleAgesAtWork vX6_possibleAgesAtWork ({ frames := 2, cells := 0, slots := 0, locals := 45 } : Room) (PcF [.ref (ad 0), .int p1] D cy ad kdV shC rfC 80 M) (QcI r D cy ad kdV shC rfC 80 M) 0 0 (AV ad 80) := by
  refine Met.ofW (cc := cX6_possibleAgesAtWork) (maxL := 4) (ret := (some .int)) (by decide) rfl ?_
  intro p e s m args below meth c s₁ B hml hv
  obtain ⟨rfl, hP, hK, hN⟩ := hv
  have hr := B.returns
  have hlocks := B.notSynchronized
  have S : CallFix p m c cX6_possibleAgesAtWork 4 s ([.ref (ad 0), .int p1] : List Value).toArray vX6_possibleAgesAtWork RX6 := ⟨B.exec, B.bytes, hml, findClass_of_methodNamed B.named, atoms_spec (ws := vX6_possibleAgesAtWork) B.pre⟩
  have hq : ∀ w ∈ GW, w.before ([.ref (ad 0), .int p1] : List Value).toArray s = true := fun w h => S.2.2.2.2 w (List.mem_cons_of_mem _ h)
  have hA : ∀ k, k < 80 → AV ad 80 (ad k) := fun k hk => ⟨k, hk, rfl⟩
  have hW : WSt D cy ad kdV shC rfC 80 (AV ad 80) M s.heap s.heap [] := ⟨hP, va_S.rf⟩
  clear hP
  have iX6 : ∀ w ∈ wsX60, w ∈ vX6_possibleAgesAtWork := fun w h => List.mem_cons_of_mem _ (inX6 w h)
  have hl := lv_entry ([.ref (ad 0), .int p1]) (n := 4) (Nat.le_of_ble_eq_true rfl)
  rw [lg_entry_eq]
  generalize (lg_sl ([.ref (ad 0), .int p1]) ++ List.replicate (4 - (lg_sl ([.ref (ad 0), .int p1])).length) Slot.unset).toArray = ls at hl ⊢
  have hl : lv_has ls 4 [(0, .ref (ad 0)), (1, .int p1)] := hl
  rw [fX6_possibleAgesAtWork] at h
  refine lv_iconst (v := (0 : Int32)) S.1 S.2.1 dX6_possibleAgesAtWork_0 (by decide) ?_
  refine lv_istore_n (lv' := [(2, .int (0 : Int32)), (0, .ref (ad 0)), (1, .int p1)]) S.1 S.2.1 dX6_possibleAgesAtWork_1 rfl hl (by decide) rfl (fun ls hl => ?_)
  refine lv_iconst (v := (0 : Int32)) S.1 S.2.1 dX6_possibleAgesAtWork_2 (by decide) ?_
  refine lv_istore_n (lv' := [(3, .int (0 : Int32)), (2, .int (0 : Int32)), (0, .ref (ad 0)), (1, .int p1)]) S.1 S.2.1 dX6_possibleAgesAtWork_3 rfl hl (by decide) rfl (fun ls hl => ?_)
  have L4 : ∀ (n : Nat) (x2 : Int32) (x3 : Int32) (w1 : Int32) (w2 : Int32), fX6_possibleAgesAtWork_L4 p1 M n x2 x3 = some (w1, w2) → ∀ (H : Heap) (locs : List Loc) (ls : Array Slot), lv_has ls 4 [(0, .ref (ad 0)), (1, .int p1), (2, .int x2), (3, .int x3)] → WSt D cy ad kdV shC rfC 80 (AV ad 80) M s.heap H locs → (∀ (H : Heap) (locs : List Loc) (ls : Array Slot), lv_has ls 4 [(0, .ref (ad 0)), (1, .int p1), (2, .int w1), (3, .int w2)] → WSt D cy ad kdV shC rfC 80 (AV ad 80) M s.heap H locs → W p l e (headSpec vX6_possibleAgesAtWork ({ frames := 2, cells := 0, slots := 0, locals := 45 } : Room)).room s m ([.ref (ad 0), .int p1] : List Value).toArray below meth c H locs 0 0 (MQ below (QcI r D cy ad kdV shC rfC 80 M) ([.ref (ad 0), .int p1] : List Value).toArray s 0 0 (AV ad 80)) (F0 m 46 ls [])) → W p l e (headSpec vX6_possibleAgesAtWork ({ frames := 2, cells := 0, slots := 0, locals := 45 } : Room)).room s m ([.ref (ad 0), .int p1] : List Value).toArray below meth c H locs 0 0 (MQ below (QcI r D cy ad kdV shC rfC 80 M) ([.ref (ad 0), .int p1] : List Value).toArray s 0 0 (AV ad 80)) (F0 m 4 ls []) := by
    intro n
    induction n with
    | zero => intro x2 x3 w1 w2 h; cases h
    | succ n ih =>
      intro x2 x3 w1 w2 h H locs ls hl hW K
      rw [fX6_possibleAgesAtWork_L4] at h
      refine lv_iload_n S.1 S.2.1 dX6_possibleAgesAtWork_4 rfl (lv_at hl 3 rfl) ?_
      refine lv_bipush (v := (99 : Int32)) S.1 S.2.1 dX6_possibleAgesAtWork_5 (by decide) ?_
      refine lv_icmp_gt (tgt := 46) S.1 S.2.1 dX6_possibleAgesAtWork_7 (by decide) (fun c3 => ?_) (fun c3 => ?_)
      · replace h := (if_pos c3).symm.trans h
        obtain ⟨rfl, rfl⟩ := s2 h
        exact K _ _ _ hl hW
      · replace h := (if_neg c3).symm.trans h
        refine lv_aload_n S.1 S.2.1 dX6_possibleAgesAtWork_10 rfl (lv_at hl 0 rfl) ?_
        obtain ⟨t4k, h⟩ := gd_some h
        obtain ⟨⟨t4l0, t4s0⟩, ⟨t4l1, t4s1⟩, ⟨t4l2, t4s2⟩, ⟨t4l3, t4s3⟩, t4r0, t4r1, t4r2⟩ := isT_ok t4k
        refine fl_get S hK iX6 rfl lC_0 sC_0 7 (by decide) (hq _ q_131) (fun _ h9 => h9) (fvs_D rfl) hW dX6_possibleAgesAtWork_11 ?_
        refine lv_iload_n S.1 S.2.1 dX6_possibleAgesAtWork_14 rfl (lv_at hl 1 rfl) ?_
        refine lv_iload_n S.1 S.2.1 dX6_possibleAgesAtWork_15 rfl (lv_at hl 3 rfl) ?_
        obtain ⟨v6, u5, h⟩ := bP_some h
        refine fl_doneI (fl_runVN S hK hN (kX5_spans l hJ ((M.1 0 7).toNatClampNeg) t4k p1 x3 M v6 u5) ⟨va_cnB 2 S.2.2.2.2 (gN q_60) rfl rfl rfl (hN.m 33 rfl) (hq _ q_61) (by decide +kernel) ⟨Nat.le_of_ble_eq_true rfl, Nat.le_of_ble_eq_true rfl⟩, (hq _ q_62), (hq _ q_63)⟩ (ci := 5) rfl t4l0 t4s0 rfl hl.1 rfl (Nat.le_of_ble_eq_true rfl) dX6_possibleAgesAtWork_16 ⟨Nat.zero_le _, Nat.zero_le _⟩ hW) hA hW.2 (fun H locs hW => ?_)
        refine lv_if_eq (tgt := 40) S.1 S.2.1 dX6_possibleAgesAtWork_19 (by decide) (fun c7 => ?_) (fun c7 => ?_)
        · replace h := (if_pos c7).symm.trans h
          refine lv_iinc (v := x3 + (1 : Int32)) (lv' := [(3, .int (x3 + (1 : Int32))), (0, .ref (ad 0)), (1, .int p1), (2, .int x2)]) S.1 S.2.1 dX6_possibleAgesAtWork_40 hl (k := 3) rfl rfl (by decide) rfl (fun ls hl => ?_)
          refine lv_goto (tgt := 4) S.1 S.2.1 dX6_possibleAgesAtWork_43 (by decide) ?_
          exact ih _ _ _ _ h _ _ _ (lv_sub hl [1, 2, 3, 0] rfl) hW K
        · replace h := (if_neg c7).symm.trans h
          refine lv_aload_n S.1 S.2.1 dX6_possibleAgesAtWork_22 rfl (lv_at hl 0 rfl) ?_
          refine fl_get S hK iX6 rfl lC_0 sC_0 6 (by decide) (hq _ q_136) (fun _ h9 => h9) (fvs_R rfl rfl) hW dX6_possibleAgesAtWork_23 ?_
          refine lv_aload_n S.1 S.2.1 dX6_possibleAgesAtWork_26 rfl (lv_at hl 0 rfl) ?_
          refine fl_get S hK iX6 rfl lC_0 sC_0 7 (by decide) (hq _ q_131) (fun _ h9 => h9) (fvs_D rfl) hW dX6_possibleAgesAtWork_27 ?_
          refine lv_iload_n S.1 S.2.1 dX6_possibleAgesAtWork_30 rfl (lv_at hl 3 rfl) ?_
          obtain ⟨v9, u8, h⟩ := bP_some h
          refine fl_doneI (fl_runVN S hK hN (kX3_allows l hJ ((M.1 0 7).toNatClampNeg) t4k x3 M v9 u8) ⟨va_cnB 2 S.2.2.2.2 (gN q_232) rfl rfl rfl (hN.m 31 rfl) (hq _ q_229) (by decide +kernel) ⟨Nat.le_of_ble_eq_true rfl, Nat.le_of_ble_eq_true rfl⟩, (hq _ q_233), (hq _ q_234)⟩ (ci := 3) rfl lC_61 sC_61 rfl hl.1 rfl (Nat.le_of_ble_eq_true rfl) dX6_possibleAgesAtWork_31 ⟨Nat.zero_le _, Nat.zero_le _⟩ hW) hA hW.2 (fun H locs hW => ?_)
          refine lv_if_eq (tgt := 40) S.1 S.2.1 dX6_possibleAgesAtWork_34 (by decide) (fun c10 => ?_) (fun c10 => ?_)
          · replace h := (if_pos c10).symm.trans h
            refine lv_iinc (v := x3 + (1 : Int32)) (lv' := [(3, .int (x3 + (1 : Int32))), (0, .ref (ad 0)), (1, .int p1), (2, .int x2)]) S.1 S.2.1 dX6_possibleAgesAtWork_40 hl (k := 3) rfl rfl (by decide) rfl (fun ls hl => ?_)
            refine lv_goto (tgt := 4) S.1 S.2.1 dX6_possibleAgesAtWork_43 (by decide) ?_
            exact ih _ _ _ _ h _ _ _ (lv_sub hl [1, 2, 3, 0] rfl) hW K
          · replace h := (if_neg c10).symm.trans h
            refine lv_iinc (v := x2 + (1 : Int32)) (lv' := [(2, .int (x2 + (1 : Int32))), (0, .ref (ad 0)), (1, .int p1), (3, .int x3)]) S.1 S.2.1 dX6_possibleAgesAtWork_37 hl (k := 2) rfl rfl (by decide) rfl (fun ls hl => ?_)
            refine lv_iinc (v := x3 + (1 : Int32)) (lv' := [(3, .int (x3 + (1 : Int32))), (2, .int (x2 + (1 : Int32))), (0, .ref (ad 0)), (1, .int p1)]) S.1 S.2.1 dX6_possibleAgesAtWork_40 hl (k := 3) rfl rfl (by decide) rfl (fun ls hl => ?_)
            refine lv_goto (tgt := 4) S.1 S.2.1 dX6_possibleAgesAtWork_43 (by decide) ?_
            exact ih _ _ _ _ h _ _ _ (lv_sub hl [2, 3, 1, 0] rfl) hW K
  obtain ⟨w1, w2, u11, h⟩ := b2_some h
  refine L4 50000 _ _ _ _ u11 _ _ _ (lv_sub hl [2, 3, 1, 0] rfl) hW (fun H locs ls hl hW => ?_)
  clear L4
  refine lv_iload_n S.1 S.2.1 dX6_possibleAgesAtWork_46 rfl (lv_at hl 2 rfl) ?_
  obtain rfl := s1 h
  exact fl_iret S.1 S.2.1 hr hlocks hW dX6_possibleAgesAtWork_47
def fX6_next_L23 (M : Mm) (v2 : Int32) : Nat → Int32 → Int32 → Int32 → Option (Int32 × Int32 × Int32)
  | 0, _, _, _ => none
  | n + 1, x2, x3, x4 => gd (isT (M.1 0 7).toNatClampNeg) (if (M.1 ((M.1 0 7).toNatClampNeg) 6) ≤ x4 then (some (x2, x3, x4)) else (bP (fX6_possibleAgesAtWork x4 M) (fun (v10 : Int32) => if x3 ≤ (if v10 < (v2 - v10) then (v2 - v10) else v10) then (fX6_next_L23 M v2 n x2 x3 (x4 + (1 : Int32))) else (fX6_next_L23 M v2 n x4 (if v10 < (v2 - v10) then (v2 - v10) else v10) (x4 + (1 : Int32))))))
def fX6_next (M : Mm) : Option (Int32) :=
  bP (fX6_possibleAges M) (fun (v2 : Int32) => if (1 : Int32) < v2 then (b3 (fX6_next_L23 M v2 50000 (-9 : Int32) (v2 + (1 : Int32)) (0 : Int32)) (fun (w4 : Int32) (w5 : Int32) (w6 : Int32) => some w4)) else (some (-9 : Int32)))
set_option maxHeartbeats 4000000 in
set_option maxRecDepth 100000 in
theorem kX6_next (l : Launch) {D : va_G} {cy : Nat → ClassId} {ad : Nat → Nat} (hJ : Inj ad 80)   (M : Mm) (r : Int32) (h : fX6_next M = some r) : Met l yX6_next vX6_next ({ frames := 3, cells := 0, slots := 0, locals := 68 } : Room) (PcF [.ref (ad 0)] D cy ad kdV shC rfC 80 M) (QcI r D cy ad kdV shC rfC 80 M) 0 0 (AV ad 80) := by
  refine Met.ofW (cc := cX6_next) (maxL := 7) (ret := (some .int)) (by decide) rfl ?_
  intro p e s m args below meth c s₁ B hml hv
  obtain ⟨rfl, hP, hK, hN⟩ := hv
  have hr := B.returns
  have hlocks := B.notSynchronized
  have S : CallFix p m c cX6_next 7 s ([.ref (ad 0)] : List Value).toArray vX6_next RX6 := ⟨B.exec, B.bytes, hml, findClass_of_methodNamed B.named, atoms_spec (ws := vX6_next) B.pre⟩
  have hq : ∀ w ∈ GW, w.before ([.ref (ad 0)] : List Value).toArray s = true := fun w h => S.2.2.2.2 w (List.mem_cons_of_mem _ h)
  have hA : ∀ k, k < 80 → AV ad 80 (ad k) := fun k hk => ⟨k, hk, rfl⟩
  have hW : WSt D cy ad kdV shC rfC 80 (AV ad 80) M s.heap s.heap [] := ⟨hP, va_S.rf⟩
  clear hP
  have iX5 : ∀ w ∈ wsX50, w ∈ vX6_next := fun w h => List.mem_cons_of_mem _ (inX5 w h)
  have iX6 : ∀ w ∈ wsX60, w ∈ vX6_next := fun w h => List.mem_cons_of_mem _ (inX6 w h)
  have hl := lv_entry ([.ref (ad 0)]) (n := 7) (Nat.le_of_ble_eq_true rfl)
  rw [lg_entry_eq]
  generalize (lg_sl ([.ref (ad 0)]) ++ List.replicate (7 - (lg_sl ([.ref (ad 0)])).length) Slot.unset).toArray = ls at hl ⊢
  have hl : lv_has ls 7 [(0, .ref (ad 0))] := hl
  rw [fX6_next] at h
  refine lv_aload_n S.1 S.2.1 dX6_next_0 rfl (lv_at hl 0 rfl) ?_
  obtain ⟨v2, u1, h⟩ := bP_some h
  refine fl_doneI (fl_runV S hK hN (kX6_possibleAges l hJ M v2 u1) (cwV 0 S.2.2.2.2 (gV q_236 q_237 q_238 q_3 q_235) rfl rfl rfl (by decide +kernel) ⟨Nat.le_of_ble_eq_true rfl, Nat.le_of_ble_eq_true rfl⟩) (ci := 6) rfl lC_0 sC_0 rfl hl.1 rfl (Nat.le_of_ble_eq_true rfl) dX6_next_1 ⟨Nat.zero_le _, Nat.zero_le _⟩ hW) hA hW.2 (fun H locs hW => ?_)
  refine lv_istore_n (lv' := [(1, .int v2), (0, .ref (ad 0))]) S.1 S.2.1 dX6_next_4 rfl hl (by decide) rfl (fun ls hl => ?_)
  refine lv_iload_n S.1 S.2.1 dX6_next_5 rfl (lv_at hl 0 rfl) ?_
  refine lv_iconst (v := (1 : Int32)) S.1 S.2.1 dX6_next_6 (by decide) ?_
  refine lv_icmp_gt (tgt := 13) S.1 S.2.1 dX6_next_7 (by decide) (fun c3 => ?_) (fun c3 => ?_)
  · replace h := (if_pos c3).symm.trans h
    refine lv_bipush (v := (-9 : Int32)) S.1 S.2.1 dX6_next_13 (by decide) ?_
    refine lv_istore_n (lv' := [(2, .int (-9 : Int32)), (1, .int v2), (0, .ref (ad 0))]) S.1 S.2.1 dX6_next_15 rfl hl (by decide) rfl (fun ls hl => ?_)
    refine lv_iload_n S.1 S.2.1 dX6_next_16 rfl (lv_at hl 1 rfl) ?_
    refine lv_iconst (v := (1 : Int32)) S.1 S.2.1 dX6_next_17 (by decide) ?_
    refine lv_iadd S.1 S.2.1 dX6_next_18 ?_
    refine lv_istore_n (lv' := [(3, .int (v2 + (1 : Int32))), (2, .int (-9 : Int32)), (1, .int v2), (0, .ref (ad 0))]) S.1 S.2.1 dX6_next_19 rfl hl (by decide) rfl (fun ls hl => ?_)
    refine lv_iconst (v := (0 : Int32)) S.1 S.2.1 dX6_next_20 (by decide) ?_
    refine lv_istore (lv' := [(4, .int (0 : Int32)), (3, .int (v2 + (1 : Int32))), (2, .int (-9 : Int32)), (1, .int v2), (0, .ref (ad 0))]) S.1 S.2.1 dX6_next_21 hl (by decide) rfl (fun ls hl => ?_)
    have L23 : ∀ (n : Nat) (x2 : Int32) (x3 : Int32) (x4 : Int32) (w4 : Int32) (w5 : Int32) (w6 : Int32), fX6_next_L23 M v2 n x2 x3 x4 = some (w4, w5, w6) → ∀ (H : Heap) (locs : List Loc) (ls : Array Slot), lv_has ls 7 [(0, .ref (ad 0)), (1, .int v2), (2, .int x2), (3, .int x3), (4, .int x4)] → WSt D cy ad kdV shC rfC 80 (AV ad 80) M s.heap H locs → (∀ (H : Heap) (locs : List Loc) (ls : Array Slot), lv_has ls 7 [(0, .ref (ad 0)), (1, .int v2), (2, .int w4), (3, .int w5), (4, .int w6)] → WSt D cy ad kdV shC rfC 80 (AV ad 80) M s.heap H locs → W p l e (headSpec vX6_next ({ frames := 3, cells := 0, slots := 0, locals := 68 } : Room)).room s m ([.ref (ad 0)] : List Value).toArray below meth c H locs 0 0 (MQ below (QcI r D cy ad kdV shC rfC 80 M) ([.ref (ad 0)] : List Value).toArray s 0 0 (AV ad 80)) (F0 m 72 ls [])) → W p l e (headSpec vX6_next ({ frames := 3, cells := 0, slots := 0, locals := 68 } : Room)).room s m ([.ref (ad 0)] : List Value).toArray below meth c H locs 0 0 (MQ below (QcI r D cy ad kdV shC rfC 80 M) ([.ref (ad 0)] : List Value).toArray s 0 0 (AV ad 80)) (F0 m 23 ls []) := by
      intro n
      induction n with
      | zero => intro x2 x3 x4 w4 w5 w6 h; cases h
      | succ n ih =>
        intro x2 x3 x4 w4 w5 w6 h H locs ls hl hW K
        rw [fX6_next_L23] at h
        refine lv_iload S.1 S.2.1 dX6_next_23 (lv_at hl 4 rfl) ?_
        refine lv_aload_n S.1 S.2.1 dX6_next_25 rfl (lv_at hl 0 rfl) ?_
        obtain ⟨t7k, h⟩ := gd_some h
        obtain ⟨⟨t7l0, t7s0⟩, ⟨t7l1, t7s1⟩, ⟨t7l2, t7s2⟩, ⟨t7l3, t7s3⟩, t7r0, t7r1, t7r2⟩ := isT_ok t7k
        refine fl_get S hK iX6 rfl lC_0 sC_0 7 (by decide) (hq _ q_131) (fun _ h9 => h9) (fvs_D rfl) hW dX6_next_26 ?_
        refine fl_getN S hK iX5 rfl t7l0 t7s0 6 (by decide) (hN.f 28 rfl) (fun _ h9 => h9) (fvs_I rfl) hW dX6_next_29 ?_
        refine lv_icmp_ge (tgt := 72) S.1 S.2.1 dX6_next_32 (by decide) (fun c8 => ?_) (fun c8 => ?_)
        · replace h := (if_pos c8).symm.trans h
          obtain ⟨rfl, rfl, rfl⟩ := s3 h
          exact K _ _ _ hl hW
        · replace h := (if_neg c8).symm.trans h
          refine lv_aload_n S.1 S.2.1 dX6_next_35 rfl (lv_at hl 0 rfl) ?_
          refine lv_iload S.1 S.2.1 dX6_next_36 (lv_at hl 4 rfl) ?_
          obtain ⟨v10, u9, h⟩ := bP_some h
          refine fl_doneI (fl_runV S hK hN (kX6_possibleAgesAtWork l hJ x4 M v10 u9) (cwV 1 S.2.2.2.2 (gV q_248 q_249 q_250 q_3 q_247) rfl rfl rfl (by decide +kernel) ⟨Nat.le_of_ble_eq_true rfl, Nat.le_of_ble_eq_true rfl⟩) (ci := 6) rfl lC_0 sC_0 rfl hl.1 rfl (Nat.le_of_ble_eq_true rfl) dX6_next_38 ⟨Nat.zero_le _, Nat.zero_le _⟩ hW) hA hW.2 (fun H locs hW => ?_)
          refine lv_istore (lv' := [(5, .int v10), (0, .ref (ad 0)), (1, .int v2), (2, .int x2), (3, .int x3), (4, .int x4)]) S.1 S.2.1 dX6_next_41 hl (by decide) rfl (fun ls hl => ?_)
          refine lv_iload S.1 S.2.1 dX6_next_43 (lv_at hl 0 rfl) ?_
          refine lv_iload_n S.1 S.2.1 dX6_next_45 rfl (lv_at hl 2 rfl) ?_
          refine lv_iload S.1 S.2.1 dX6_next_46 (lv_at hl 0 rfl) ?_
          refine lv_isub S.1 S.2.1 dX6_next_48 ?_
          refine va_mmax S.1 S.2.1 (S.2.2.1.trans hl.1.symm) S.2.2.2.1 (hq _ q_251) (hq _ q_15) (hq _ q_16) (hq _ q_17) (Nat.le_of_ble_eq_true rfl) (Nat.le_of_ble_eq_true rfl) (Nat.zero_le _) (Nat.zero_le _) dX6_next_49 ?_
          refine lv_istore (lv' := [(6, .int (if v10 < (v2 - v10) then (v2 - v10) else v10)), (5, .int v10), (0, .ref (ad 0)), (1, .int v2), (2, .int x2), (3, .int x3), (4, .int x4)]) S.1 S.2.1 dX6_next_52 hl (by decide) rfl (fun ls hl => ?_)
          refine lv_iload S.1 S.2.1 dX6_next_54 (lv_at hl 0 rfl) ?_
          refine lv_iload_n S.1 S.2.1 dX6_next_56 rfl (lv_at hl 5 rfl) ?_
          refine lv_icmp_ge (tgt := 66) S.1 S.2.1 dX6_next_57 (by decide) (fun c11 => ?_) (fun c11 => ?_)
          · replace h := (if_pos c11).symm.trans h
            refine lv_iinc (v := x4 + (1 : Int32)) (lv' := [(4, .int (x4 + (1 : Int32))), (6, .int (if v10 < (v2 - v10) then (v2 - v10) else v10)), (5, .int v10), (0, .ref (ad 0)), (1, .int v2), (2, .int x2), (3, .int x3)]) S.1 S.2.1 dX6_next_66 hl (k := 6) rfl rfl (by decide) rfl (fun ls hl => ?_)
            refine lv_goto (tgt := 23) S.1 S.2.1 dX6_next_69 (by decide) ?_
            exact ih _ _ _ _ _ _ h _ _ _ (lv_sub hl [3, 4, 5, 6, 0] rfl) hW K
          · replace h := (if_neg c11).symm.trans h
            refine lv_iload S.1 S.2.1 dX6_next_60 (lv_at hl 6 rfl) ?_
            refine lv_istore_n (lv' := [(2, .int x4), (6, .int (if v10 < (v2 - v10) then (v2 - v10) else v10)), (5, .int v10), (0, .ref (ad 0)), (1, .int v2), (3, .int x3), (4, .int x4)]) S.1 S.2.1 dX6_next_62 rfl hl (by decide) rfl (fun ls hl => ?_)
            refine lv_iload S.1 S.2.1 dX6_next_63 (lv_at hl 1 rfl) ?_
            refine lv_istore_n (lv' := [(3, .int (if v10 < (v2 - v10) then (v2 - v10) else v10)), (2, .int x4), (6, .int (if v10 < (v2 - v10) then (v2 - v10) else v10)), (5, .int v10), (0, .ref (ad 0)), (1, .int v2), (4, .int x4)]) S.1 S.2.1 dX6_next_65 rfl hl (by decide) rfl (fun ls hl => ?_)
            refine lv_iinc (v := x4 + (1 : Int32)) (lv' := [(4, .int (x4 + (1 : Int32))), (3, .int (if v10 < (v2 - v10) then (v2 - v10) else v10)), (2, .int x4), (6, .int (if v10 < (v2 - v10) then (v2 - v10) else v10)), (5, .int v10), (0, .ref (ad 0)), (1, .int v2)]) S.1 S.2.1 dX6_next_66 hl (k := 6) rfl rfl (by decide) rfl (fun ls hl => ?_)
            refine lv_goto (tgt := 23) S.1 S.2.1 dX6_next_69 (by decide) ?_
            exact ih _ _ _ _ _ _ h _ _ _ (lv_sub hl [5, 6, 2, 1, 0] rfl) hW K
    obtain ⟨w4, w5, w6, u12, h⟩ := b3_some h
    refine L23 50000 _ _ _ _ _ _ u12 _ _ _ (lv_sub hl [4, 3, 2, 1, 0] rfl) hW (fun H locs ls hl hW => ?_)
    clear L23
    refine lv_iload_n S.1 S.2.1 dX6_next_72 rfl (lv_at hl 2 rfl) ?_
    obtain rfl := s1 h
    exact fl_iret S.1 S.2.1 hr hlocks hW dX6_next_73
  · replace h := (if_neg c3).symm.trans h
    refine lv_bipush (v := (-9 : Int32)) S.1 S.2.1 dX6_next_10 (by decide) ?_
    obtain rfl := s1 h
    exact fl_iret S.1 S.2.1 hr hlocks hW dX6_next_12
def fX6_rateChild (p1 : Int32) (M : Mm) : Option (Int32 × Mm) :=
  lt (wL M (M.2 + (1 : Int64))) (fun (M1 : Mm) => bP (fX6_has (M1.1 3 5) p1) (fun (v4 : Int32) => if v4 = 0 then (some ((0 : Int32), M1)) else (ix p1 6 (some (M1.1 6 (p1).toNatClampNeg, M1)))))
set_option maxHeartbeats 4000000 in
set_option maxRecDepth 100000 in
theorem kX6_rateChild (l : Launch) {D : va_G} {cy : Nat → ClassId} {ad : Nat → Nat} (hJ : Inj ad 80)  (p1 : Int32) (M : Mm) (r : Int32) (M' : Mm) (h : fX6_rateChild p1 M = some (r, M')) : Met l yX6_rateChild vX6_rateChild ({ frames := 2, cells := 0, slots := 0, locals := 41 } : Room) (PcF [.ref (ad 0), .int p1] D cy ad kdV shC rfC 80 M) (QcI r D cy ad kdV shC rfC 80 M') 0 0 (AV ad 80) := by
  refine Met.ofW (cc := cX6_rateChild) (maxL := 2) (ret := (some .int)) (by decide) rfl ?_
  intro p e s m args below meth c s₁ B hml hv
  obtain ⟨rfl, hP, hK, hN⟩ := hv
  have hr := B.returns
  have hlocks := B.notSynchronized
  have S : CallFix p m c cX6_rateChild 2 s ([.ref (ad 0), .int p1] : List Value).toArray vX6_rateChild RX6 := ⟨B.exec, B.bytes, hml, findClass_of_methodNamed B.named, atoms_spec (ws := vX6_rateChild) B.pre⟩
  have hq : ∀ w ∈ GW, w.before ([.ref (ad 0), .int p1] : List Value).toArray s = true := fun w h => S.2.2.2.2 w (List.mem_cons_of_mem _ h)
  have hA : ∀ k, k < 80 → AV ad 80 (ad k) := fun k hk => ⟨k, hk, rfl⟩
  have hW : WSt D cy ad kdV shC rfC 80 (AV ad 80) M s.heap s.heap [] := ⟨hP, va_S.rf⟩
  clear hP
  have iX1 : ∀ w ∈ wsX10, w ∈ vX6_rateChild := fun w h => List.mem_cons_of_mem _ (inX1 w h)
  have iX6 : ∀ w ∈ wsX60, w ∈ vX6_rateChild := fun w h => List.mem_cons_of_mem _ (inX6 w h)
  have hl := lv_entry ([.ref (ad 0), .int p1]) (n := 2) (Nat.le_of_ble_eq_true rfl)
  rw [lg_entry_eq]
  generalize (lg_sl ([.ref (ad 0), .int p1]) ++ List.replicate (2 - (lg_sl ([.ref (ad 0), .int p1])).length) Slot.unset).toArray = ls at hl ⊢
  have hl : lv_has ls 2 [(0, .ref (ad 0)), (1, .int p1)] := hl
  rw [fX6_rateChild] at h
  refine lv_aload_n S.1 S.2.1 dX6_rateChild_0 rfl (lv_at hl 0 rfl) ?_
  refine lv_dup S.1 S.2.1 dX6_rateChild_1 rfl ?_
  refine fl_get S hK iX6 rfl lC_0 sC_0 9 (by decide) (hq _ q_252) (fun _ h9 => h9) (fvs_J rfl) hW dX6_rateChild_2 ?_
  refine lv_lconst (v := (1 : Int64)) S.1 S.2.1 dX6_rateChild_5 (by decide) ?_
  refine lv_ladd S.1 S.2.1 dX6_rateChild_6 ?_
  refine fl_put S hK hJ hA tyX6 tyX6_ok nmX6 iX6 rfl lC_0 sC_0 9 (by decide) (hq _ q_252) (fun _ h9 => h9) rfl (ty := .long) rfl rfl rfl (wL M (M.2 + (1 : Int64))) (by decide) (fvs_setL _ rfl uLC) (fun j hj hn => cof_wL (wLC j hj hn)) hW dX6_rateChild_7 (fun H locs hW => ?_)
  obtain ⟨M1, e2, h⟩ := lt_some h
  rw [e2] at hW
  clear e2
  refine lv_aload_n S.1 S.2.1 dX6_rateChild_10 rfl (lv_at hl 0 rfl) ?_
  refine fl_get S hK iX6 rfl lC_0 sC_0 1 (by decide) (hq _ q_130) (fun _ h9 => h9) (fvs_R rfl rfl) hW dX6_rateChild_11 ?_
  refine fl_getN S hK iX1 rfl lC_3 sC_3 5 (by decide) (hN.f 7 rfl) (fun _ h9 => h9) (fvs_I rfl) hW dX6_rateChild_14 ?_
  refine lv_iload_n S.1 S.2.1 dX6_rateChild_17 rfl (lv_at hl 1 rfl) ?_
  obtain ⟨v4, u3, h⟩ := bP_some h
  refine fl_doneP (fl_runS S (kX6_has l (M1.1 3 5) p1 v4 u3) (va_cwS 2 S.2.2.2.2 (gS q_150 q_6 q_3 q_5) rfl rfl rfl (by decide +kernel) ⟨Nat.le_of_ble_eq_true rfl, Nat.le_of_ble_eq_true rfl⟩) rfl hl.1 rfl (Nat.le_of_ble_eq_true rfl) dX6_rateChild_18 ⟨Nat.zero_le _, Nat.zero_le _⟩) hW (fun H locs hW => ?_)
  refine lv_if_eq (tgt := 36) S.1 S.2.1 dX6_rateChild_21 (by decide) (fun c5 => ?_) (fun c5 => ?_)
  · replace h := (if_pos c5).symm.trans h
    refine lv_iconst (v := (0 : Int32)) S.1 S.2.1 dX6_rateChild_36 (by decide) ?_
    obtain ⟨rfl, rfl⟩ := s2 h
    exact fl_iret S.1 S.2.1 hr hlocks hW dX6_rateChild_37
  · replace h := (if_neg c5).symm.trans h
    refine lv_aload_n S.1 S.2.1 dX6_rateChild_24 rfl (lv_at hl 0 rfl) ?_
    refine fl_get S hK iX6 rfl lC_0 sC_0 1 (by decide) (hq _ q_130) (fun _ h9 => h9) (fvs_R rfl rfl) hW dX6_rateChild_25 ?_
    refine fl_getN S hK iX1 rfl lC_3 sC_3 2 (by decide) (hN.f 4 rfl) (fun _ h9 => h9) (fvs_R rfl rfl) hW dX6_rateChild_28 ?_
    refine lv_iload_n S.1 S.2.1 dX6_rateChild_31 rfl (lv_at hl 1 rfl) ?_
    obtain ⟨g6, h⟩ := ix_some h
    refine fl_iald S hK lC_6 sC_6 g6 hW dX6_rateChild_32 ?_
    refine lv_goto (tgt := 37) S.1 S.2.1 dX6_rateChild_33 (by decide) ?_
    obtain ⟨rfl, rfl⟩ := s2 h
    exact fl_iret S.1 S.2.1 hr hlocks hW dX6_rateChild_37
def fX6_rateAttic (p1 : Int32) (M : Mm) : Option (Int32 × Mm) :=
  lt (wL M (M.2 + (10 : Int64))) (fun (M1 : Mm) => b2 (fX6_rateChild p1 M1) (fun (v4 : Int32) (M5 : Mm) => some (v4 + (M5.1 3 3), M5)))
set_option maxHeartbeats 4000000 in
set_option maxRecDepth 100000 in
theorem kX6_rateAttic (l : Launch) {D : va_G} {cy : Nat → ClassId} {ad : Nat → Nat} (hJ : Inj ad 80)  (p1 : Int32) (M : Mm) (r : Int32) (M' : Mm) (h : fX6_rateAttic p1 M = some (r, M')) : Met l yX6_rateAttic vX6_rateAttic ({ frames := 3, cells := 0, slots := 0, locals := 62 } : Room) (PcF [.ref (ad 0), .int p1] D cy ad kdV shC rfC 80 M) (QcI r D cy ad kdV shC rfC 80 M') 0 0 (AV ad 80) := by
  refine Met.ofW (cc := cX6_rateAttic) (maxL := 2) (ret := (some .int)) (by decide) rfl ?_
  intro p e s m args below meth c s₁ B hml hv
  obtain ⟨rfl, hP, hK, hN⟩ := hv
  have hr := B.returns
  have hlocks := B.notSynchronized
  have S : CallFix p m c cX6_rateAttic 2 s ([.ref (ad 0), .int p1] : List Value).toArray vX6_rateAttic RX6 := ⟨B.exec, B.bytes, hml, findClass_of_methodNamed B.named, atoms_spec (ws := vX6_rateAttic) B.pre⟩
  have hq : ∀ w ∈ GW, w.before ([.ref (ad 0), .int p1] : List Value).toArray s = true := fun w h => S.2.2.2.2 w (List.mem_cons_of_mem _ h)
  have hA : ∀ k, k < 80 → AV ad 80 (ad k) := fun k hk => ⟨k, hk, rfl⟩
  have hW : WSt D cy ad kdV shC rfC 80 (AV ad 80) M s.heap s.heap [] := ⟨hP, va_S.rf⟩
  clear hP
  have iX1 : ∀ w ∈ wsX10, w ∈ vX6_rateAttic := fun w h => List.mem_cons_of_mem _ (inX1 w h)
  have iX6 : ∀ w ∈ wsX60, w ∈ vX6_rateAttic := fun w h => List.mem_cons_of_mem _ (inX6 w h)
  have hl := lv_entry ([.ref (ad 0), .int p1]) (n := 2) (Nat.le_of_ble_eq_true rfl)
  rw [lg_entry_eq]
  generalize (lg_sl ([.ref (ad 0), .int p1]) ++ List.replicate (2 - (lg_sl ([.ref (ad 0), .int p1])).length) Slot.unset).toArray = ls at hl ⊢
  have hl : lv_has ls 2 [(0, .ref (ad 0)), (1, .int p1)] := hl
  rw [fX6_rateAttic] at h
  refine lv_aload_n S.1 S.2.1 dX6_rateAttic_0 rfl (lv_at hl 0 rfl) ?_
  refine lv_dup S.1 S.2.1 dX6_rateAttic_1 rfl ?_
  refine fl_get S hK iX6 rfl lC_0 sC_0 9 (by decide) (hq _ q_252) (fun _ h9 => h9) (fvs_J rfl) hW dX6_rateAttic_2 ?_
  refine lv_ldc2 S.1 S.2.1 S.2.2.2.1 (hq _ q_253) dX6_rateAttic_5 ?_
  refine lv_ladd S.1 S.2.1 dX6_rateAttic_8 ?_
  refine fl_put S hK hJ hA tyX6 tyX6_ok nmX6 iX6 rfl lC_0 sC_0 9 (by decide) (hq _ q_252) (fun _ h9 => h9) rfl (ty := .long) rfl rfl rfl (wL M (M.2 + (10 : Int64))) (by decide) (fvs_setL _ rfl uLC) (fun j hj hn => cof_wL (wLC j hj hn)) hW dX6_rateAttic_9 (fun H locs hW => ?_)
  obtain ⟨M1, e2, h⟩ := lt_some h
  rw [e2] at hW
  clear e2
  refine lv_aload_n S.1 S.2.1 dX6_rateAttic_12 rfl (lv_at hl 0 rfl) ?_
  refine lv_iload_n S.1 S.2.1 dX6_rateAttic_13 rfl (lv_at hl 1 rfl) ?_
  obtain ⟨v4, M5, u3, h⟩ := b2_some h
  refine fl_doneI (fl_runV S hK hN (kX6_rateChild l hJ p1 M1 v4 M5 u3) (cwV 1 S.2.2.2.2 (gV q_255 q_256 q_257 q_3 q_254) rfl rfl rfl (by decide +kernel) ⟨Nat.le_of_ble_eq_true rfl, Nat.le_of_ble_eq_true rfl⟩) (ci := 6) rfl lC_0 sC_0 rfl hl.1 rfl (Nat.le_of_ble_eq_true rfl) dX6_rateAttic_14 ⟨Nat.zero_le _, Nat.zero_le _⟩ hW) hA hW.2 (fun H locs hW => ?_)
  refine lv_aload_n S.1 S.2.1 dX6_rateAttic_17 rfl (lv_at hl 0 rfl) ?_
  refine fl_get S hK iX6 rfl lC_0 sC_0 1 (by decide) (hq _ q_130) (fun _ h9 => h9) (fvs_R rfl rfl) hW dX6_rateAttic_18 ?_
  refine fl_getN S hK iX1 rfl lC_3 sC_3 3 (by decide) (hN.f 5 rfl) (fun _ h9 => h9) (fvs_I rfl) hW dX6_rateAttic_21 ?_
  refine lv_iadd S.1 S.2.1 dX6_rateAttic_24 ?_
  obtain ⟨rfl, rfl⟩ := s2 h
  exact fl_iret S.1 S.2.1 hr hlocks hW dX6_rateAttic_25
def fX6_rateCellar (p1 : Int32) (M : Mm) : Option (Int32 × Mm) :=
  lt (wL M (M.2 + (100 : Int64))) (fun (M1 : Mm) => b2 (fX6_rateChild p1 M1) (fun (v4 : Int32) (M5 : Mm) => bP (fX6_worksOfChild p1 M5) (fun (v7 : Int32) => bP (fJ6_bitCount_0f7a4 v7) (fun (v9 : Int32) => some (v4 - v9, M5)))))
set_option maxHeartbeats 4000000 in
set_option maxRecDepth 100000 in
theorem kX6_rateCellar (l : Launch) {D : va_G} {cy : Nat → ClassId} {ad : Nat → Nat} (hJ : Inj ad 80)  (p1 : Int32) (M : Mm) (r : Int32) (M' : Mm) (h : fX6_rateCellar p1 M = some (r, M')) : Met l yX6_rateCellar vX6_rateCellar ({ frames := 4, cells := 0, slots := 0, locals := 88 } : Room) (PcF [.ref (ad 0), .int p1] D cy ad kdV shC rfC 80 M) (QcI r D cy ad kdV shC rfC 80 M') 0 0 (AV ad 80) := by
  refine Met.ofW (cc := cX6_rateCellar) (maxL := 2) (ret := (some .int)) (by decide) rfl ?_
  intro p e s m args below meth c s₁ B hml hv
  obtain ⟨rfl, hP, hK, hN⟩ := hv
  have hr := B.returns
  have hlocks := B.notSynchronized
  have S : CallFix p m c cX6_rateCellar 2 s ([.ref (ad 0), .int p1] : List Value).toArray vX6_rateCellar RX6 := ⟨B.exec, B.bytes, hml, findClass_of_methodNamed B.named, atoms_spec (ws := vX6_rateCellar) B.pre⟩
  have hq : ∀ w ∈ GW, w.before ([.ref (ad 0), .int p1] : List Value).toArray s = true := fun w h => S.2.2.2.2 w (List.mem_cons_of_mem _ h)
  have hA : ∀ k, k < 80 → AV ad 80 (ad k) := fun k hk => ⟨k, hk, rfl⟩
  have hW : WSt D cy ad kdV shC rfC 80 (AV ad 80) M s.heap s.heap [] := ⟨hP, va_S.rf⟩
  clear hP
  have iX6 : ∀ w ∈ wsX60, w ∈ vX6_rateCellar := fun w h => List.mem_cons_of_mem _ (inX6 w h)
  have hl := lv_entry ([.ref (ad 0), .int p1]) (n := 2) (Nat.le_of_ble_eq_true rfl)
  rw [lg_entry_eq]
  generalize (lg_sl ([.ref (ad 0), .int p1]) ++ List.replicate (2 - (lg_sl ([.ref (ad 0), .int p1])).length) Slot.unset).toArray = ls at hl ⊢
  have hl : lv_has ls 2 [(0, .ref (ad 0)), (1, .int p1)] := hl
  rw [fX6_rateCellar] at h
  refine lv_aload_n S.1 S.2.1 dX6_rateCellar_0 rfl (lv_at hl 0 rfl) ?_
  refine lv_dup S.1 S.2.1 dX6_rateCellar_1 rfl ?_
  refine fl_get S hK iX6 rfl lC_0 sC_0 9 (by decide) (hq _ q_252) (fun _ h9 => h9) (fvs_J rfl) hW dX6_rateCellar_2 ?_
  refine lv_ldc2 S.1 S.2.1 S.2.2.2.1 (hq _ q_258) dX6_rateCellar_5 ?_
  refine lv_ladd S.1 S.2.1 dX6_rateCellar_8 ?_
  refine fl_put S hK hJ hA tyX6 tyX6_ok nmX6 iX6 rfl lC_0 sC_0 9 (by decide) (hq _ q_252) (fun _ h9 => h9) rfl (ty := .long) rfl rfl rfl (wL M (M.2 + (100 : Int64))) (by decide) (fvs_setL _ rfl uLC) (fun j hj hn => cof_wL (wLC j hj hn)) hW dX6_rateCellar_9 (fun H locs hW => ?_)
  obtain ⟨M1, e2, h⟩ := lt_some h
  rw [e2] at hW
  clear e2
  refine lv_aload_n S.1 S.2.1 dX6_rateCellar_12 rfl (lv_at hl 0 rfl) ?_
  refine lv_iload_n S.1 S.2.1 dX6_rateCellar_13 rfl (lv_at hl 1 rfl) ?_
  obtain ⟨v4, M5, u3, h⟩ := b2_some h
  refine fl_doneI (fl_runV S hK hN (kX6_rateChild l hJ p1 M1 v4 M5 u3) (cwV 1 S.2.2.2.2 (gV q_255 q_256 q_257 q_3 q_254) rfl rfl rfl (by decide +kernel) ⟨Nat.le_of_ble_eq_true rfl, Nat.le_of_ble_eq_true rfl⟩) (ci := 6) rfl lC_0 sC_0 rfl hl.1 rfl (Nat.le_of_ble_eq_true rfl) dX6_rateCellar_14 ⟨Nat.zero_le _, Nat.zero_le _⟩ hW) hA hW.2 (fun H locs hW => ?_)
  refine lv_aload_n S.1 S.2.1 dX6_rateCellar_17 rfl (lv_at hl 0 rfl) ?_
  refine lv_iload_n S.1 S.2.1 dX6_rateCellar_18 rfl (lv_at hl 1 rfl) ?_
  obtain ⟨v7, u6, h⟩ := bP_some h
  refine fl_doneI (fl_runV S hK hN (kX6_worksOfChild l hJ p1 M5 v7 u6) (cwV 1 S.2.2.2.2 (gV q_159 q_160 q_161 q_3 q_158) rfl rfl rfl (by decide +kernel) ⟨Nat.le_of_ble_eq_true rfl, Nat.le_of_ble_eq_true rfl⟩) (ci := 6) rfl lC_0 sC_0 rfl hl.1 rfl (Nat.le_of_ble_eq_true rfl) dX6_rateCellar_19 ⟨Nat.zero_le _, Nat.zero_le _⟩ hW) hA hW.2 (fun H locs hW => ?_)
  obtain ⟨v9, u8, h⟩ := bP_some h
  refine fl_doneP (fl_runS S (kJ6_bitCount_0f7a4 l v7 v9 u8) (va_cwS 1 S.2.2.2.2 (gS q_212 q_213 q_214 q_211) rfl rfl rfl (by decide +kernel) ⟨Nat.le_of_ble_eq_true rfl, Nat.le_of_ble_eq_true rfl⟩) rfl hl.1 rfl (Nat.le_of_ble_eq_true rfl) dX6_rateCellar_22 ⟨Nat.zero_le _, Nat.zero_le _⟩) hW (fun H locs hW => ?_)
  refine lv_isub S.1 S.2.1 dX6_rateCellar_25 ?_
  obtain ⟨rfl, rfl⟩ := s2 h
  exact fl_iret S.1 S.2.1 hr hlocks hW dX6_rateCellar_26
def fX6_rateGable (p1 : Int32) (M : Mm) : Option (Int32 × Mm) :=
  lt (wL M (M.2 + (1000 : Int64))) (fun (M1 : Mm) => b2 (fX6_rateAttic p1 M1) (fun (v4 : Int32) (M5 : Mm) => some ((2 : Int32) * v4, M5)))
set_option maxHeartbeats 4000000 in
set_option maxRecDepth 100000 in
theorem kX6_rateGable (l : Launch) {D : va_G} {cy : Nat → ClassId} {ad : Nat → Nat} (hJ : Inj ad 80)  (p1 : Int32) (M : Mm) (r : Int32) (M' : Mm) (h : fX6_rateGable p1 M = some (r, M')) : Met l yX6_rateGable vX6_rateGable ({ frames := 4, cells := 0, slots := 0, locals := 83 } : Room) (PcF [.ref (ad 0), .int p1] D cy ad kdV shC rfC 80 M) (QcI r D cy ad kdV shC rfC 80 M') 0 0 (AV ad 80) := by
  refine Met.ofW (cc := cX6_rateGable) (maxL := 2) (ret := (some .int)) (by decide) rfl ?_
  intro p e s m args below meth c s₁ B hml hv
  obtain ⟨rfl, hP, hK, hN⟩ := hv
  have hr := B.returns
  have hlocks := B.notSynchronized
  have S : CallFix p m c cX6_rateGable 2 s ([.ref (ad 0), .int p1] : List Value).toArray vX6_rateGable RX6 := ⟨B.exec, B.bytes, hml, findClass_of_methodNamed B.named, atoms_spec (ws := vX6_rateGable) B.pre⟩
  have hq : ∀ w ∈ GW, w.before ([.ref (ad 0), .int p1] : List Value).toArray s = true := fun w h => S.2.2.2.2 w (List.mem_cons_of_mem _ h)
  have hA : ∀ k, k < 80 → AV ad 80 (ad k) := fun k hk => ⟨k, hk, rfl⟩
  have hW : WSt D cy ad kdV shC rfC 80 (AV ad 80) M s.heap s.heap [] := ⟨hP, va_S.rf⟩
  clear hP
  have iX6 : ∀ w ∈ wsX60, w ∈ vX6_rateGable := fun w h => List.mem_cons_of_mem _ (inX6 w h)
  have hl := lv_entry ([.ref (ad 0), .int p1]) (n := 2) (Nat.le_of_ble_eq_true rfl)
  rw [lg_entry_eq]
  generalize (lg_sl ([.ref (ad 0), .int p1]) ++ List.replicate (2 - (lg_sl ([.ref (ad 0), .int p1])).length) Slot.unset).toArray = ls at hl ⊢
  have hl : lv_has ls 2 [(0, .ref (ad 0)), (1, .int p1)] := hl
  rw [fX6_rateGable] at h
  refine lv_aload_n S.1 S.2.1 dX6_rateGable_0 rfl (lv_at hl 0 rfl) ?_
  refine lv_dup S.1 S.2.1 dX6_rateGable_1 rfl ?_
  refine fl_get S hK iX6 rfl lC_0 sC_0 9 (by decide) (hq _ q_252) (fun _ h9 => h9) (fvs_J rfl) hW dX6_rateGable_2 ?_
  refine lv_ldc2 S.1 S.2.1 S.2.2.2.1 (hq _ q_259) dX6_rateGable_5 ?_
  refine lv_ladd S.1 S.2.1 dX6_rateGable_8 ?_
  refine fl_put S hK hJ hA tyX6 tyX6_ok nmX6 iX6 rfl lC_0 sC_0 9 (by decide) (hq _ q_252) (fun _ h9 => h9) rfl (ty := .long) rfl rfl rfl (wL M (M.2 + (1000 : Int64))) (by decide) (fvs_setL _ rfl uLC) (fun j hj hn => cof_wL (wLC j hj hn)) hW dX6_rateGable_9 (fun H locs hW => ?_)
  obtain ⟨M1, e2, h⟩ := lt_some h
  rw [e2] at hW
  clear e2
  refine lv_iconst (v := (2 : Int32)) S.1 S.2.1 dX6_rateGable_12 (by decide) ?_
  refine lv_aload_n S.1 S.2.1 dX6_rateGable_13 rfl (lv_at hl 0 rfl) ?_
  refine lv_iload_n S.1 S.2.1 dX6_rateGable_14 rfl (lv_at hl 1 rfl) ?_
  obtain ⟨v4, M5, u3, h⟩ := b2_some h
  refine fl_doneI (fl_runV S hK hN (kX6_rateAttic l hJ p1 M1 v4 M5 u3) (cwV 1 S.2.2.2.2 (gV q_261 q_262 q_263 q_3 q_260) rfl rfl rfl (by decide +kernel) ⟨Nat.le_of_ble_eq_true rfl, Nat.le_of_ble_eq_true rfl⟩) (ci := 6) rfl lC_0 sC_0 rfl hl.1 rfl (Nat.le_of_ble_eq_true rfl) dX6_rateGable_15 ⟨Nat.zero_le _, Nat.zero_le _⟩ hW) hA hW.2 (fun H locs hW => ?_)
  refine lv_imul S.1 S.2.1 dX6_rateGable_18 ?_
  obtain ⟨rfl, rfl⟩ := s2 h
  exact fl_iret S.1 S.2.1 hr hlocks hW dX6_rateGable_19
def fX6_rateCrypt (p1 : Int32) (M : Mm) : Option (Int32 × Mm) :=
  lt (wL M (M.2 + (10000 : Int64))) (fun (M1 : Mm) => b2 (fX6_rateCellar p1 M1) (fun (v4 : Int32) (M5 : Mm) => some (v4 + p1, M5)))
set_option maxHeartbeats 4000000 in
set_option maxRecDepth 100000 in
theorem kX6_rateCrypt (l : Launch) {D : va_G} {cy : Nat → ClassId} {ad : Nat → Nat} (hJ : Inj ad 80)  (p1 : Int32) (M : Mm) (r : Int32) (M' : Mm) (h : fX6_rateCrypt p1 M = some (r, M')) : Met l yX6_rateCrypt vX6_rateCrypt ({ frames := 5, cells := 0, slots := 0, locals := 109 } : Room) (PcF [.ref (ad 0), .int p1] D cy ad kdV shC rfC 80 M) (QcI r D cy ad kdV shC rfC 80 M') 0 0 (AV ad 80) := by
  refine Met.ofW (cc := cX6_rateCrypt) (maxL := 2) (ret := (some .int)) (by decide) rfl ?_
  intro p e s m args below meth c s₁ B hml hv
  obtain ⟨rfl, hP, hK, hN⟩ := hv
  have hr := B.returns
  have hlocks := B.notSynchronized
  have S : CallFix p m c cX6_rateCrypt 2 s ([.ref (ad 0), .int p1] : List Value).toArray vX6_rateCrypt RX6 := ⟨B.exec, B.bytes, hml, findClass_of_methodNamed B.named, atoms_spec (ws := vX6_rateCrypt) B.pre⟩
  have hq : ∀ w ∈ GW, w.before ([.ref (ad 0), .int p1] : List Value).toArray s = true := fun w h => S.2.2.2.2 w (List.mem_cons_of_mem _ h)
  have hA : ∀ k, k < 80 → AV ad 80 (ad k) := fun k hk => ⟨k, hk, rfl⟩
  have hW : WSt D cy ad kdV shC rfC 80 (AV ad 80) M s.heap s.heap [] := ⟨hP, va_S.rf⟩
  clear hP
  have iX6 : ∀ w ∈ wsX60, w ∈ vX6_rateCrypt := fun w h => List.mem_cons_of_mem _ (inX6 w h)
  have hl := lv_entry ([.ref (ad 0), .int p1]) (n := 2) (Nat.le_of_ble_eq_true rfl)
  rw [lg_entry_eq]
  generalize (lg_sl ([.ref (ad 0), .int p1]) ++ List.replicate (2 - (lg_sl ([.ref (ad 0), .int p1])).length) Slot.unset).toArray = ls at hl ⊢
  have hl : lv_has ls 2 [(0, .ref (ad 0)), (1, .int p1)] := hl
  rw [fX6_rateCrypt] at h
  refine lv_aload_n S.1 S.2.1 dX6_rateCrypt_0 rfl (lv_at hl 0 rfl) ?_
  refine lv_dup S.1 S.2.1 dX6_rateCrypt_1 rfl ?_
  refine fl_get S hK iX6 rfl lC_0 sC_0 9 (by decide) (hq _ q_252) (fun _ h9 => h9) (fvs_J rfl) hW dX6_rateCrypt_2 ?_
  refine lv_ldc2 S.1 S.2.1 S.2.2.2.1 (hq _ q_264) dX6_rateCrypt_5 ?_
  refine lv_ladd S.1 S.2.1 dX6_rateCrypt_8 ?_
  refine fl_put S hK hJ hA tyX6 tyX6_ok nmX6 iX6 rfl lC_0 sC_0 9 (by decide) (hq _ q_252) (fun _ h9 => h9) rfl (ty := .long) rfl rfl rfl (wL M (M.2 + (10000 : Int64))) (by decide) (fvs_setL _ rfl uLC) (fun j hj hn => cof_wL (wLC j hj hn)) hW dX6_rateCrypt_9 (fun H locs hW => ?_)
  obtain ⟨M1, e2, h⟩ := lt_some h
  rw [e2] at hW
  clear e2
  refine lv_aload_n S.1 S.2.1 dX6_rateCrypt_12 rfl (lv_at hl 0 rfl) ?_
  refine lv_iload_n S.1 S.2.1 dX6_rateCrypt_13 rfl (lv_at hl 1 rfl) ?_
  obtain ⟨v4, M5, u3, h⟩ := b2_some h
  refine fl_doneI (fl_runV S hK hN (kX6_rateCellar l hJ p1 M1 v4 M5 u3) (cwV 1 S.2.2.2.2 (gV q_266 q_267 q_268 q_3 q_265) rfl rfl rfl (by decide +kernel) ⟨Nat.le_of_ble_eq_true rfl, Nat.le_of_ble_eq_true rfl⟩) (ci := 6) rfl lC_0 sC_0 rfl hl.1 rfl (Nat.le_of_ble_eq_true rfl) dX6_rateCrypt_14 ⟨Nat.zero_le _, Nat.zero_le _⟩ hW) hA hW.2 (fun H locs hW => ?_)
  refine lv_iload_n S.1 S.2.1 dX6_rateCrypt_17 rfl (lv_at hl 1 rfl) ?_
  refine lv_iadd S.1 S.2.1 dX6_rateCrypt_18 ?_
  obtain ⟨rfl, rfl⟩ := s2 h
  exact fl_iret S.1 S.2.1 hr hlocks hW dX6_rateCrypt_19
def fX6_rateCart (p1 : Int32) (M : Mm) : Option (Int32 × Mm) :=
  lt (wL M (M.2 + (100000 : Int64))) (fun (M1 : Mm) => b2 (fX6_rateChild p1 M1) (fun (v4 : Int32) (M5 : Mm) => bP (fJ6_bitCount_0f7a4 (M5.1 3 5)) (fun (v7 : Int32) => some (v4 + v7, M5))))
set_option maxHeartbeats 4000000 in
set_option maxRecDepth 100000 in
theorem kX6_rateCart (l : Launch) {D : va_G} {cy : Nat → ClassId} {ad : Nat → Nat} (hJ : Inj ad 80)  (p1 : Int32) (M : Mm) (r : Int32) (M' : Mm) (h : fX6_rateCart p1 M = some (r, M')) : Met l yX6_rateCart vX6_rateCart ({ frames := 3, cells := 0, slots := 0, locals := 62 } : Room) (PcF [.ref (ad 0), .int p1] D cy ad kdV shC rfC 80 M) (QcI r D cy ad kdV shC rfC 80 M') 0 0 (AV ad 80) := by
  refine Met.ofW (cc := cX6_rateCart) (maxL := 2) (ret := (some .int)) (by decide) rfl ?_
  intro p e s m args below meth c s₁ B hml hv
  obtain ⟨rfl, hP, hK, hN⟩ := hv
  have hr := B.returns
  have hlocks := B.notSynchronized
  have S : CallFix p m c cX6_rateCart 2 s ([.ref (ad 0), .int p1] : List Value).toArray vX6_rateCart RX6 := ⟨B.exec, B.bytes, hml, findClass_of_methodNamed B.named, atoms_spec (ws := vX6_rateCart) B.pre⟩
  have hq : ∀ w ∈ GW, w.before ([.ref (ad 0), .int p1] : List Value).toArray s = true := fun w h => S.2.2.2.2 w (List.mem_cons_of_mem _ h)
  have hA : ∀ k, k < 80 → AV ad 80 (ad k) := fun k hk => ⟨k, hk, rfl⟩
  have hW : WSt D cy ad kdV shC rfC 80 (AV ad 80) M s.heap s.heap [] := ⟨hP, va_S.rf⟩
  clear hP
  have iX1 : ∀ w ∈ wsX10, w ∈ vX6_rateCart := fun w h => List.mem_cons_of_mem _ (inX1 w h)
  have iX6 : ∀ w ∈ wsX60, w ∈ vX6_rateCart := fun w h => List.mem_cons_of_mem _ (inX6 w h)
  have hl := lv_entry ([.ref (ad 0), .int p1]) (n := 2) (Nat.le_of_ble_eq_true rfl)
  rw [lg_entry_eq]
  generalize (lg_sl ([.ref (ad 0), .int p1]) ++ List.replicate (2 - (lg_sl ([.ref (ad 0), .int p1])).length) Slot.unset).toArray = ls at hl ⊢
  have hl : lv_has ls 2 [(0, .ref (ad 0)), (1, .int p1)] := hl
  rw [fX6_rateCart] at h
  refine lv_aload_n S.1 S.2.1 dX6_rateCart_0 rfl (lv_at hl 0 rfl) ?_
  refine lv_dup S.1 S.2.1 dX6_rateCart_1 rfl ?_
  refine fl_get S hK iX6 rfl lC_0 sC_0 9 (by decide) (hq _ q_252) (fun _ h9 => h9) (fvs_J rfl) hW dX6_rateCart_2 ?_
  refine lv_ldc2 S.1 S.2.1 S.2.2.2.1 (hq _ q_269) dX6_rateCart_5 ?_
  refine lv_ladd S.1 S.2.1 dX6_rateCart_8 ?_
  refine fl_put S hK hJ hA tyX6 tyX6_ok nmX6 iX6 rfl lC_0 sC_0 9 (by decide) (hq _ q_252) (fun _ h9 => h9) rfl (ty := .long) rfl rfl rfl (wL M (M.2 + (100000 : Int64))) (by decide) (fvs_setL _ rfl uLC) (fun j hj hn => cof_wL (wLC j hj hn)) hW dX6_rateCart_9 (fun H locs hW => ?_)
  obtain ⟨M1, e2, h⟩ := lt_some h
  rw [e2] at hW
  clear e2
  refine lv_aload_n S.1 S.2.1 dX6_rateCart_12 rfl (lv_at hl 0 rfl) ?_
  refine lv_iload_n S.1 S.2.1 dX6_rateCart_13 rfl (lv_at hl 1 rfl) ?_
  obtain ⟨v4, M5, u3, h⟩ := b2_some h
  refine fl_doneI (fl_runV S hK hN (kX6_rateChild l hJ p1 M1 v4 M5 u3) (cwV 1 S.2.2.2.2 (gV q_255 q_256 q_257 q_3 q_254) rfl rfl rfl (by decide +kernel) ⟨Nat.le_of_ble_eq_true rfl, Nat.le_of_ble_eq_true rfl⟩) (ci := 6) rfl lC_0 sC_0 rfl hl.1 rfl (Nat.le_of_ble_eq_true rfl) dX6_rateCart_14 ⟨Nat.zero_le _, Nat.zero_le _⟩ hW) hA hW.2 (fun H locs hW => ?_)
  refine lv_aload_n S.1 S.2.1 dX6_rateCart_17 rfl (lv_at hl 0 rfl) ?_
  refine fl_get S hK iX6 rfl lC_0 sC_0 1 (by decide) (hq _ q_130) (fun _ h9 => h9) (fvs_R rfl rfl) hW dX6_rateCart_18 ?_
  refine fl_getN S hK iX1 rfl lC_3 sC_3 5 (by decide) (hN.f 7 rfl) (fun _ h9 => h9) (fvs_I rfl) hW dX6_rateCart_21 ?_
  obtain ⟨v7, u6, h⟩ := bP_some h
  refine fl_doneP (fl_runS S (kJ6_bitCount_0f7a4 l (M5.1 3 5) v7 u6) (va_cwS 1 S.2.2.2.2 (gS q_212 q_213 q_214 q_211) rfl rfl rfl (by decide +kernel) ⟨Nat.le_of_ble_eq_true rfl, Nat.le_of_ble_eq_true rfl⟩) rfl hl.1 rfl (Nat.le_of_ble_eq_true rfl) dX6_rateCart_24 ⟨Nat.zero_le _, Nat.zero_le _⟩) hW (fun H locs hW => ?_)
  refine lv_iadd S.1 S.2.1 dX6_rateCart_27 ?_
  obtain ⟨rfl, rfl⟩ := s2 h
  exact fl_iret S.1 S.2.1 hr hlocks hW dX6_rateCart_28

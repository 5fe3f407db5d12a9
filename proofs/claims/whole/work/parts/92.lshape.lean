/-! ===== the law: a case of each shape ===== -/
section LS
variable {p : Program} {l : Launch} {e : Env} {s : State} {m : MethodId} {below : List Frame} {meth : Method} {c : Code} {H : Heap} {locs : List Loc} {cells slots : Nat} {Q : State → Prop}
variable {b L : Nat} {xs : Nat → Int32} {D : va_G} {cy : Nat → ClassId} {adc adm : Nat → Nat} {Mc Mc' Md Md' : Mm}
variable {pc : Nat} {ls : Array Slot} {rest st0 As : List Value}
variable {y : MethodName} {bytes : ByteArray} {maxL n idx : Nat} {ws : List Cond} {rm : Room} {r : Int32} {r8 : Int64}
theorem ls_0 (E : LawE p s m c b L xs D cy adc adm) {i1 i2 : Nat} {off : Int} {y1 y2 : MethodName} {k1 k2 : ByteArray} {n1 n2 : Nat} {w1 w2 : List Cond} {m1 m2 : Room} {x3 : Int32}  (hM1 : Met l y1 w1 m1 (PcF [.ref (adc 0)] D cy adc kdV shC rfC 80 Mc) (QcI r D cy adc kdV shC rfC 80 Mc') 0 0 (AV adc 80)) (cw1 : CallW room_1 s #[Value.ref b] R_law RX6 i1 y1 k1 n1 (some .int) w1 m1 0 0 0)
    (hM2 : Met l y2 w2 m2 (PcF [.ref (adm 0)] D cy adm kdV shM rfM 15 Md) (QcI r D cy adm kdV shM rfM 15 Md') 0 0 (AV adm 15)) (cw2 : CallW room_1 s #[Value.ref b] R_law RX7 i2 y2 k2 n2 (some .int) w2 m2 0 0 0)
    (d0 : decode code (pc) = .ok (.aload_n 1, 1)) (d1 : decode code (pc + 1) = .ok (.invokevirtual i1, 3)) (d2 : decode code (pc + 1 + 3) = .ok (.aload_n 2, 1)) (d3 : decode code (pc + 1 + 3 + 1) = .ok (.invokevirtual i2, 3)) (d4 : decode code (pc + 1 + 3 + 1 + 3) = .ok (.if_icmp .eq off, 3)) (ht : ((pc + 1 + 3 + 1 + 3 : Nat) : Int) + off = ((771 : Nat) : Int)) (hl : lv_has ls 4 [(0, .ref b), (1, .ref (adc 0)), (2, .ref (adm 0)), (3, .int x3)]) (hf : cells ≤ room_1.cells ∧ slots ≤ room_1.slots) (hW : LW s D cy adc adm Mc Md H locs)
    (kk : ∀ (H1 : Heap) (locs1 : List Loc), LW s D cy adc adm Mc' Md' H1 locs1 → W p l e room_1 s m #[Value.ref b] below meth c H1 locs1 cells slots Q (F0 m 771 ls [])) : W p l e room_1 s m #[Value.ref b] below meth c H locs cells slots Q (F0 m pc ls []) := by
  have S := E.1
  have hX := E.2.2.2.1
  have hbl := E.2.2.2.2.1
  have hbA : ¬ (fun q : Nat => s.heap.size ≤ q) b := Nat.not_le.mpr hbl
  refine lv_aload_n S.1 S.2.1 d0 rfl (lv_at hl 1 rfl) ?_
  refine lx_I E hM1 cw1 (rest := []) rfl rfl (Nat.le_of_ble_eq_true rfl) hl.1 d1 hf hW (fun H locs hW => ?_)
  refine lv_aload_n S.1 S.2.1 d2 rfl (lv_at hl 2 rfl) ?_
  refine ly_I E hM2 cw2 (rest := [.int r]) rfl rfl (Nat.le_of_ble_eq_true rfl) hl.1 d3 hf hW (fun H locs hW => ?_)
  exact lv_icmp_eq S.1 S.2.1 d4 ht (fun _ => kk _ _ hW) (fun h => absurd rfl h)
theorem ls_1 (E : LawE p s m c b L xs D cy adc adm) {i1 i2 : Nat} {off : Int} {y1 y2 : MethodName} {k1 k2 : ByteArray} {n1 n2 : Nat} {w1 w2 : List Cond} {m1 m2 : Room} {x3 : Int32} (hi1 : vp_in (x3 + 1) L) (hM1 : Met l y1 w1 m1 (PcF [.ref (adc 0), .int (xs (x3 + 1).toNatClampNeg)] D cy adc kdV shC rfC 80 Mc) (QcI r D cy adc kdV shC rfC 80 Mc') 0 0 (AV adc 80)) (cw1 : CallW room_1 s #[Value.ref b] R_law RX6 i1 y1 k1 n1 (some .int) w1 m1 0 0 1)
    (hM2 : Met l y2 w2 m2 (PcF [.ref (adm 0), .int (xs (x3 + 1).toNatClampNeg)] D cy adm kdV shM rfM 15 Md) (QcI r D cy adm kdV shM rfM 15 Md') 0 0 (AV adm 15)) (cw2 : CallW room_1 s #[Value.ref b] R_law RX7 i2 y2 k2 n2 (some .int) w2 m2 0 0 1)
    (d0 : decode code (pc) = .ok (.aload_n 1, 1)) (d1 : decode code (pc + 1) = .ok (.aload_n 0, 1)) (d2 : decode code (pc + 1 + 1) = .ok (.iload_n 3, 1)) (d3 : decode code (pc + 1 + 1 + 1) = .ok (.iconst 1, 1)) (d4 : decode code (pc + 1 + 1 + 1 + 1) = .ok (.iadd, 1)) (d5 : decode code (pc + 1 + 1 + 1 + 1 + 1) = .ok (.iaload, 1)) (d6 : decode code (pc + 1 + 1 + 1 + 1 + 1 + 1) = .ok (.invokevirtual i1, 3)) (d7 : decode code (pc + 1 + 1 + 1 + 1 + 1 + 1 + 3) = .ok (.aload_n 2, 1)) (d8 : decode code (pc + 1 + 1 + 1 + 1 + 1 + 1 + 3 + 1) = .ok (.aload_n 0, 1)) (d9 : decode code (pc + 1 + 1 + 1 + 1 + 1 + 1 + 3 + 1 + 1) = .ok (.iload_n 3, 1)) (d10 : decode code (pc + 1 + 1 + 1 + 1 + 1 + 1 + 3 + 1 + 1 + 1) = .ok (.iconst 1, 1)) (d11 : decode code (pc + 1 + 1 + 1 + 1 + 1 + 1 + 3 + 1 + 1 + 1 + 1) = .ok (.iadd, 1)) (d12 : decode code (pc + 1 + 1 + 1 + 1 + 1 + 1 + 3 + 1 + 1 + 1 + 1 + 1) = .ok (.iaload, 1)) (d13 : decode code (pc + 1 + 1 + 1 + 1 + 1 + 1 + 3 + 1 + 1 + 1 + 1 + 1 + 1) = .ok (.invokevirtual i2, 3)) (d14 : decode code (pc + 1 + 1 + 1 + 1 + 1 + 1 + 3 + 1 + 1 + 1 + 1 + 1 + 1 + 3) = .ok (.if_icmp .eq off, 3)) (ht : ((pc + 1 + 1 + 1 + 1 + 1 + 1 + 3 + 1 + 1 + 1 + 1 + 1 + 1 + 3 : Nat) : Int) + off = ((771 : Nat) : Int)) (hl : lv_has ls 4 [(0, .ref b), (1, .ref (adc 0)), (2, .ref (adm 0)), (3, .int x3)]) (hf : cells ≤ room_1.cells ∧ slots ≤ room_1.slots) (hW : LW s D cy adc adm Mc Md H locs)
    (kk : ∀ (H1 : Heap) (locs1 : List Loc), LW s D cy adc adm Mc' Md' H1 locs1 → W p l e room_1 s m #[Value.ref b] below meth c H1 locs1 cells slots Q (F0 m 771 ls [])) : W p l e room_1 s m #[Value.ref b] below meth c H locs cells slots Q (F0 m pc ls []) := by
  have S := E.1
  have hX := E.2.2.2.1
  have hbl := E.2.2.2.2.1
  have hbA : ¬ (fun q : Nat => s.heap.size ≤ q) b := Nat.not_le.mpr hbl
  refine lv_aload_n S.1 S.2.1 d0 rfl (lv_at hl 1 rfl) ?_
  refine lv_aload_n S.1 S.2.1 d1 rfl (lv_at hl 0 rfl) ?_
  refine lv_iload_n S.1 S.2.1 d2 rfl (lv_at hl 3 rfl) ?_
  refine lv_iconst (v := 1) S.1 S.2.1 d3 (by decide) ?_
  refine lv_iadd S.1 S.2.1 d4 ?_
  refine va_sld S.1 S.2.1 hX hbl hbA hW.2.2 hi1 d5 ?_
  refine lx_I E hM1 cw1 (rest := []) rfl rfl (Nat.le_of_ble_eq_true rfl) hl.1 d6 hf hW (fun H locs hW => ?_)
  refine lv_aload_n S.1 S.2.1 d7 rfl (lv_at hl 2 rfl) ?_
  refine lv_aload_n S.1 S.2.1 d8 rfl (lv_at hl 0 rfl) ?_
  refine lv_iload_n S.1 S.2.1 d9 rfl (lv_at hl 3 rfl) ?_
  refine lv_iconst (v := 1) S.1 S.2.1 d10 (by decide) ?_
  refine lv_iadd S.1 S.2.1 d11 ?_
  refine va_sld S.1 S.2.1 hX hbl hbA hW.2.2 hi1 d12 ?_
  refine ly_I E hM2 cw2 (rest := [.int r]) rfl rfl (Nat.le_of_ble_eq_true rfl) hl.1 d13 hf hW (fun H locs hW => ?_)
  exact lv_icmp_eq S.1 S.2.1 d14 ht (fun _ => kk _ _ hW) (fun h => absurd rfl h)
theorem ls_2 (E : LawE p s m c b L xs D cy adc adm) {i1 i2 : Nat} {off : Int} {y1 y2 : MethodName} {k1 k2 : ByteArray} {n1 n2 : Nat} {w1 w2 : List Cond} {m1 m2 : Room} {x3 : Int32} (hi1 : vp_in (x3 + 1) L) (hi2 : vp_in (x3 + 2) L) (hM1 : Met l y1 w1 m1 (PcF [.ref (adc 0), .int (xs (x3 + 1).toNatClampNeg), .int (xs (x3 + 2).toNatClampNeg)] D cy adc kdV shC rfC 80 Mc) (QcI r D cy adc kdV shC rfC 80 Mc') 0 0 (AV adc 80)) (cw1 : CallW room_1 s #[Value.ref b] R_law RX6 i1 y1 k1 n1 (some .int) w1 m1 0 0 2)
    (hM2 : Met l y2 w2 m2 (PcF [.ref (adm 0), .int (xs (x3 + 1).toNatClampNeg), .int (xs (x3 + 2).toNatClampNeg)] D cy adm kdV shM rfM 15 Md) (QcI r D cy adm kdV shM rfM 15 Md') 0 0 (AV adm 15)) (cw2 : CallW room_1 s #[Value.ref b] R_law RX7 i2 y2 k2 n2 (some .int) w2 m2 0 0 2)
    (d0 : decode code (pc) = .ok (.aload_n 1, 1)) (d1 : decode code (pc + 1) = .ok (.aload_n 0, 1)) (d2 : decode code (pc + 1 + 1) = .ok (.iload_n 3, 1)) (d3 : decode code (pc + 1 + 1 + 1) = .ok (.iconst 1, 1)) (d4 : decode code (pc + 1 + 1 + 1 + 1) = .ok (.iadd, 1)) (d5 : decode code (pc + 1 + 1 + 1 + 1 + 1) = .ok (.iaload, 1)) (d6 : decode code (pc + 1 + 1 + 1 + 1 + 1 + 1) = .ok (.aload_n 0, 1)) (d7 : decode code (pc + 1 + 1 + 1 + 1 + 1 + 1 + 1) = .ok (.iload_n 3, 1)) (d8 : decode code (pc + 1 + 1 + 1 + 1 + 1 + 1 + 1 + 1) = .ok (.iconst 2, 1)) (d9 : decode code (pc + 1 + 1 + 1 + 1 + 1 + 1 + 1 + 1 + 1) = .ok (.iadd, 1)) (d10 : decode code (pc + 1 + 1 + 1 + 1 + 1 + 1 + 1 + 1 + 1 + 1) = .ok (.iaload, 1)) (d11 : decode code (pc + 1 + 1 + 1 + 1 + 1 + 1 + 1 + 1 + 1 + 1 + 1) = .ok (.invokevirtual i1, 3)) (d12 : decode code (pc + 1 + 1 + 1 + 1 + 1 + 1 + 1 + 1 + 1 + 1 + 1 + 3) = .ok (.aload_n 2, 1)) (d13 : decode code (pc + 1 + 1 + 1 + 1 + 1 + 1 + 1 + 1 + 1 + 1 + 1 + 3 + 1) = .ok (.aload_n 0, 1)) (d14 : decode code (pc + 1 + 1 + 1 + 1 + 1 + 1 + 1 + 1 + 1 + 1 + 1 + 3 + 1 + 1) = .ok (.iload_n 3, 1)) (d15 : decode code (pc + 1 + 1 + 1 + 1 + 1 + 1 + 1 + 1 + 1 + 1 + 1 + 3 + 1 + 1 + 1) = .ok (.iconst 1, 1)) (d16 : decode code (pc + 1 + 1 + 1 + 1 + 1 + 1 + 1 + 1 + 1 + 1 + 1 + 3 + 1 + 1 + 1 + 1) = .ok (.iadd, 1)) (d17 : decode code (pc + 1 + 1 + 1 + 1 + 1 + 1 + 1 + 1 + 1 + 1 + 1 + 3 + 1 + 1 + 1 + 1 + 1) = .ok (.iaload, 1)) (d18 : decode code (pc + 1 + 1 + 1 + 1 + 1 + 1 + 1 + 1 + 1 + 1 + 1 + 3 + 1 + 1 + 1 + 1 + 1 + 1) = .ok (.aload_n 0, 1)) (d19 : decode code (pc + 1 + 1 + 1 + 1 + 1 + 1 + 1 + 1 + 1 + 1 + 1 + 3 + 1 + 1 + 1 + 1 + 1 + 1 + 1) = .ok (.iload_n 3, 1)) (d20 : decode code (pc + 1 + 1 + 1 + 1 + 1 + 1 + 1 + 1 + 1 + 1 + 1 + 3 + 1 + 1 + 1 + 1 + 1 + 1 + 1 + 1) = .ok (.iconst 2, 1)) (d21 : decode code (pc + 1 + 1 + 1 + 1 + 1 + 1 + 1 + 1 + 1 + 1 + 1 + 3 + 1 + 1 + 1 + 1 + 1 + 1 + 1 + 1 + 1) = .ok (.iadd, 1)) (d22 : decode code (pc + 1 + 1 + 1 + 1 + 1 + 1 + 1 + 1 + 1 + 1 + 1 + 3 + 1 + 1 + 1 + 1 + 1 + 1 + 1 + 1 + 1 + 1) = .ok (.iaload, 1)) (d23 : decode code (pc + 1 + 1 + 1 + 1 + 1 + 1 + 1 + 1 + 1 + 1 + 1 + 3 + 1 + 1 + 1 + 1 + 1 + 1 + 1 + 1 + 1 + 1 + 1) = .ok (.invokevirtual i2, 3)) (d24 : decode code (pc + 1 + 1 + 1 + 1 + 1 + 1 + 1 + 1 + 1 + 1 + 1 + 3 + 1 + 1 + 1 + 1 + 1 + 1 + 1 + 1 + 1 + 1 + 1 + 3) = .ok (.if_icmp .eq off, 3)) (ht : ((pc + 1 + 1 + 1 + 1 + 1 + 1 + 1 + 1 + 1 + 1 + 1 + 3 + 1 + 1 + 1 + 1 + 1 + 1 + 1 + 1 + 1 + 1 + 1 + 3 : Nat) : Int) + off = ((771 : Nat) : Int)) (hl : lv_has ls 4 [(0, .ref b), (1, .ref (adc 0)), (2, .ref (adm 0)), (3, .int x3)]) (hf : cells ≤ room_1.cells ∧ slots ≤ room_1.slots) (hW : LW s D cy adc adm Mc Md H locs)
    (kk : ∀ (H1 : Heap) (locs1 : List Loc), LW s D cy adc adm Mc' Md' H1 locs1 → W p l e room_1 s m #[Value.ref b] below meth c H1 locs1 cells slots Q (F0 m 771 ls [])) : W p l e room_1 s m #[Value.ref b] below meth c H locs cells slots Q (F0 m pc ls []) := by
  have S := E.1
  have hX := E.2.2.2.1
  have hbl := E.2.2.2.2.1
  have hbA : ¬ (fun q : Nat => s.heap.size ≤ q) b := Nat.not_le.mpr hbl
  refine lv_aload_n S.1 S.2.1 d0 rfl (lv_at hl 1 rfl) ?_
  refine lv_aload_n S.1 S.2.1 d1 rfl (lv_at hl 0 rfl) ?_
  refine lv_iload_n S.1 S.2.1 d2 rfl (lv_at hl 3 rfl) ?_
  refine lv_iconst (v := 1) S.1 S.2.1 d3 (by decide) ?_
  refine lv_iadd S.1 S.2.1 d4 ?_
  refine va_sld S.1 S.2.1 hX hbl hbA hW.2.2 hi1 d5 ?_
  refine lv_aload_n S.1 S.2.1 d6 rfl (lv_at hl 0 rfl) ?_
  refine lv_iload_n S.1 S.2.1 d7 rfl (lv_at hl 3 rfl) ?_
  refine lv_iconst (v := 2) S.1 S.2.1 d8 (by decide) ?_
  refine lv_iadd S.1 S.2.1 d9 ?_
  refine va_sld S.1 S.2.1 hX hbl hbA hW.2.2 hi2 d10 ?_
  refine lx_I E hM1 cw1 (rest := []) rfl rfl (Nat.le_of_ble_eq_true rfl) hl.1 d11 hf hW (fun H locs hW => ?_)
  refine lv_aload_n S.1 S.2.1 d12 rfl (lv_at hl 2 rfl) ?_
  refine lv_aload_n S.1 S.2.1 d13 rfl (lv_at hl 0 rfl) ?_
  refine lv_iload_n S.1 S.2.1 d14 rfl (lv_at hl 3 rfl) ?_
  refine lv_iconst (v := 1) S.1 S.2.1 d15 (by decide) ?_
  refine lv_iadd S.1 S.2.1 d16 ?_
  refine va_sld S.1 S.2.1 hX hbl hbA hW.2.2 hi1 d17 ?_
  refine lv_aload_n S.1 S.2.1 d18 rfl (lv_at hl 0 rfl) ?_
  refine lv_iload_n S.1 S.2.1 d19 rfl (lv_at hl 3 rfl) ?_
  refine lv_iconst (v := 2) S.1 S.2.1 d20 (by decide) ?_
  refine lv_iadd S.1 S.2.1 d21 ?_
  refine va_sld S.1 S.2.1 hX hbl hbA hW.2.2 hi2 d22 ?_
  refine ly_I E hM2 cw2 (rest := [.int r]) rfl rfl (Nat.le_of_ble_eq_true rfl) hl.1 d23 hf hW (fun H locs hW => ?_)
  exact lv_icmp_eq S.1 S.2.1 d24 ht (fun _ => kk _ _ hW) (fun h => absurd rfl h)
theorem ls_0L (E : LawE p s m c b L xs D cy adc adm) {i1 i2 : Nat} {off : Int} {y1 y2 : MethodName} {k1 k2 : ByteArray} {n1 n2 : Nat} {w1 w2 : List Cond} {m1 m2 : Room} {x3 : Int32}  (hM1 : Met l y1 w1 m1 (PcF [.ref (adc 0)] D cy adc kdV shC rfC 80 Mc) (QcL r8 D cy adc kdV shC rfC 80 Mc') 0 0 (AV adc 80)) (cw1 : CallW room_1 s #[Value.ref b] R_law RX6 i1 y1 k1 n1 (some .long) w1 m1 0 0 0)
    (hM2 : Met l y2 w2 m2 (PcF [.ref (adm 0)] D cy adm kdV shM rfM 15 Md) (QcL r8 D cy adm kdV shM rfM 15 Md') 0 0 (AV adm 15)) (cw2 : CallW room_1 s #[Value.ref b] R_law RX7 i2 y2 k2 n2 (some .long) w2 m2 0 0 0)
    (d0 : decode code (pc) = .ok (.aload_n 1, 1)) (d1 : decode code (pc + 1) = .ok (.invokevirtual i1, 3)) (d2 : decode code (pc + 1 + 3) = .ok (.aload_n 2, 1)) (d3 : decode code (pc + 1 + 3 + 1) = .ok (.invokevirtual i2, 3)) (d4 : decode code (pc + 1 + 3 + 1 + 3) = .ok (.lcmp, 1)) (d5 : decode code (pc + 1 + 3 + 1 + 3 + 1) = .ok (.ifCond .eq off, 3)) (ht : ((pc + 1 + 3 + 1 + 3 + 1 : Nat) : Int) + off = ((771 : Nat) : Int)) (hl : lv_has ls 4 [(0, .ref b), (1, .ref (adc 0)), (2, .ref (adm 0)), (3, .int x3)]) (hf : cells ≤ room_1.cells ∧ slots ≤ room_1.slots) (hW : LW s D cy adc adm Mc Md H locs)
    (kk : ∀ (H1 : Heap) (locs1 : List Loc), LW s D cy adc adm Mc' Md' H1 locs1 → W p l e room_1 s m #[Value.ref b] below meth c H1 locs1 cells slots Q (F0 m 771 ls [])) : W p l e room_1 s m #[Value.ref b] below meth c H locs cells slots Q (F0 m pc ls []) := by
  have S := E.1
  have hX := E.2.2.2.1
  have hbl := E.2.2.2.2.1
  have hbA : ¬ (fun q : Nat => s.heap.size ≤ q) b := Nat.not_le.mpr hbl
  refine lv_aload_n S.1 S.2.1 d0 rfl (lv_at hl 1 rfl) ?_
  refine lx_L E hM1 cw1 (rest := []) rfl rfl (Nat.le_of_ble_eq_true rfl) hl.1 d1 hf hW (fun H locs hW => ?_)
  refine lv_aload_n S.1 S.2.1 d2 rfl (lv_at hl 2 rfl) ?_
  refine ly_L E hM2 cw2 (rest := [.long r8]) rfl rfl (Nat.le_of_ble_eq_true rfl) hl.1 d3 hf hW (fun H locs hW => ?_)
  refine W.lcmp S.1 S.2.1 d4 ?_
  exact lv_if_eq S.1 S.2.1 d5 ht (fun _ => kk _ _ hW) (fun h => absurd ((lg_cmp_eq _ _).mpr rfl) h)
end LS

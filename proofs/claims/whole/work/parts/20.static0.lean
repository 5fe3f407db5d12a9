def fX6_bit (p0 : Int32) : Option (Int32) :=
  some ((1 : Int32) <<< (p0 &&& 31))
set_option maxHeartbeats 4000000 in
set_option maxRecDepth 100000 in
theorem kX6_bit (l : Launch)  (p0 : Int32) (r : Int32) (h : fX6_bit p0 = some r) : Met l yX6_bit vX6_bit ({ frames := 0, cells := 0, slots := 0, locals := 0 } : Room) (PcP [.int p0]) (QcP r) 0 0 (fun _ => False) := by
  refine Met.ofW (cc := cX6_bit) (maxL := 1) (ret := (some .int)) (by decide) rfl ?_
  intro p e s m args below meth c s₁ B hml hv
  obtain ⟨rfl, -⟩ := hv
  have hr := B.returns
  have hlocks := B.notSynchronized
  have S : CallFix p m c cX6_bit 1 s ([.int p0] : List Value).toArray vX6_bit RX6 := ⟨B.exec, B.bytes, hml, findClass_of_methodNamed B.named, atoms_spec (ws := vX6_bit) B.pre⟩
  have hq : ∀ w ∈ GW, w.before ([.int p0] : List Value).toArray s = true := fun w h => S.2.2.2.2 w (List.mem_cons_of_mem _ h)
  have hW : va_S (fun _ => False) s.heap s.heap [] := va_S.rf
  have hl := lv_entry ([.int p0]) (n := 1) (Nat.le_of_ble_eq_true rfl)
  rw [lg_entry_eq]
  generalize (lg_sl ([.int p0]) ++ List.replicate (1 - (lg_sl ([.int p0])).length) Slot.unset).toArray = ls at hl ⊢
  have hl : lv_has ls 1 [(0, .int p0)] := hl
  rw [fX6_bit] at h
  refine lv_iconst (v := (1 : Int32)) S.1 S.2.1 dX6_bit_0 (by decide) ?_
  refine lv_iload_n S.1 S.2.1 dX6_bit_1 rfl (lv_at hl 0 rfl) ?_
  refine lv_ishl S.1 S.2.1 dX6_bit_2 ?_
  obtain rfl := s1 h
  exact fl_pret S.1 S.2.1 hr hlocks hW dX6_bit_3
def fX6_has (p0 : Int32) (p1 : Int32) : Option (Int32) :=
  bP (fX6_bit p1) (fun (v2 : Int32) => if (p0 &&& v2) = 0 then (some (0 : Int32)) else (some (1 : Int32)))
set_option maxHeartbeats 4000000 in
set_option maxRecDepth 100000 in
theorem kX6_has (l : Launch)  (p0 : Int32) (p1 : Int32) (r : Int32) (h : fX6_has p0 p1 = some r) : Met l yX6_has vX6_has ({ frames := 1, cells := 0, slots := 0, locals := 20 } : Room) (PcP [.int p0, .int p1]) (QcP r) 0 0 (fun _ => False) := by
  refine Met.ofW (cc := cX6_has) (maxL := 2) (ret := (some .boolean)) (by decide) rfl ?_
  intro p e s m args below meth c s₁ B hml hv
  obtain ⟨rfl, -⟩ := hv
  have hr := B.returns
  have hlocks := B.notSynchronized
  have S : CallFix p m c cX6_has 2 s ([.int p0, .int p1] : List Value).toArray vX6_has RX6 := ⟨B.exec, B.bytes, hml, findClass_of_methodNamed B.named, atoms_spec (ws := vX6_has) B.pre⟩
  have hq : ∀ w ∈ GW, w.before ([.int p0, .int p1] : List Value).toArray s = true := fun w h => S.2.2.2.2 w (List.mem_cons_of_mem _ h)
  have hW : va_S (fun _ => False) s.heap s.heap [] := va_S.rf
  have hl := lv_entry ([.int p0, .int p1]) (n := 2) (Nat.le_of_ble_eq_true rfl)
  rw [lg_entry_eq]
  generalize (lg_sl ([.int p0, .int p1]) ++ List.replicate (2 - (lg_sl ([.int p0, .int p1])).length) Slot.unset).toArray = ls at hl ⊢
  have hl : lv_has ls 2 [(0, .int p0), (1, .int p1)] := hl
  rw [fX6_has] at h
  refine lv_iload_n S.1 S.2.1 dX6_has_0 rfl (lv_at hl 0 rfl) ?_
  refine lv_iload_n S.1 S.2.1 dX6_has_1 rfl (lv_at hl 1 rfl) ?_
  obtain ⟨v2, u1, h⟩ := bP_some h
  refine fl_doneQ (fl_runS S (kX6_bit l p1 v2 u1) (va_cwS 1 S.2.2.2.2 (gS q_1 q_2 q_3 q_0) rfl rfl rfl (by decide +kernel) ⟨Nat.le_of_ble_eq_true rfl, Nat.le_of_ble_eq_true rfl⟩) rfl hl.1 rfl (Nat.le_of_ble_eq_true rfl) dX6_has_2 ⟨Nat.zero_le _, Nat.zero_le _⟩) hW (fun H locs hW => ?_)
  refine lv_iand S.1 S.2.1 dX6_has_5 ?_
  refine lv_if_eq (tgt := 13) S.1 S.2.1 dX6_has_6 (by decide) (fun c3 => ?_) (fun c3 => ?_)
  · replace h := (if_pos c3).symm.trans h
    refine lv_iconst (v := (0 : Int32)) S.1 S.2.1 dX6_has_13 (by decide) ?_
    obtain rfl := s1 h
    exact fl_pzret S.1 S.2.1 hr hlocks (Or.inl rfl) hW dX6_has_14
  · replace h := (if_neg c3).symm.trans h
    refine lv_iconst (v := (1 : Int32)) S.1 S.2.1 dX6_has_9 (by decide) ?_
    refine lv_goto (tgt := 14) S.1 S.2.1 dX6_has_10 (by decide) ?_
    obtain rfl := s1 h
    exact fl_pzret S.1 S.2.1 hr hlocks (Or.inr rfl) hW dX6_has_14
def fX4_isDigit (p0 : Int32) : Option (Int32) :=
  if p0 < (48 : Int32) then (some (0 : Int32)) else (if (57 : Int32) < p0 then (some (0 : Int32)) else (some (1 : Int32)))
set_option maxHeartbeats 4000000 in
set_option maxRecDepth 100000 in
theorem kX4_isDigit (l : Launch)  (p0 : Int32) (r : Int32) (h : fX4_isDigit p0 = some r) : Met l yX4_isDigit vX4_isDigit ({ frames := 0, cells := 0, slots := 0, locals := 0 } : Room) (PcP [.int p0]) (QcP r) 0 0 (fun _ => False) := by
  refine Met.ofW (cc := cX4_isDigit) (maxL := 1) (ret := (some .boolean)) (by decide) rfl ?_
  intro p e s m args below meth c s₁ B hml hv
  obtain ⟨rfl, -⟩ := hv
  have hr := B.returns
  have hlocks := B.notSynchronized
  have S : CallFix p m c cX4_isDigit 1 s ([.int p0] : List Value).toArray vX4_isDigit RX4 := ⟨B.exec, B.bytes, hml, findClass_of_methodNamed B.named, atoms_spec (ws := vX4_isDigit) B.pre⟩
  have hq : ∀ w ∈ GW, w.before ([.int p0] : List Value).toArray s = true := fun w h => S.2.2.2.2 w (List.mem_cons_of_mem _ h)
  have hW : va_S (fun _ => False) s.heap s.heap [] := va_S.rf
  have hl := lv_entry ([.int p0]) (n := 1) (Nat.le_of_ble_eq_true rfl)
  rw [lg_entry_eq]
  generalize (lg_sl ([.int p0]) ++ List.replicate (1 - (lg_sl ([.int p0])).length) Slot.unset).toArray = ls at hl ⊢
  have hl : lv_has ls 1 [(0, .int p0)] := hl
  rw [fX4_isDigit] at h
  refine lv_iload_n S.1 S.2.1 dX4_isDigit_0 rfl (lv_at hl 0 rfl) ?_
  refine lv_bipush (v := (48 : Int32)) S.1 S.2.1 dX4_isDigit_1 (by decide) ?_
  refine lv_icmp_lt (tgt := 16) S.1 S.2.1 dX4_isDigit_3 (by decide) (fun c1 => ?_) (fun c1 => ?_)
  · replace h := (if_pos c1).symm.trans h
    refine lv_iconst (v := (0 : Int32)) S.1 S.2.1 dX4_isDigit_16 (by decide) ?_
    obtain rfl := s1 h
    exact fl_pzret S.1 S.2.1 hr hlocks (Or.inl rfl) hW dX4_isDigit_17
  · replace h := (if_neg c1).symm.trans h
    refine lv_iload_n S.1 S.2.1 dX4_isDigit_6 rfl (lv_at hl 0 rfl) ?_
    refine lv_bipush (v := (57 : Int32)) S.1 S.2.1 dX4_isDigit_7 (by decide) ?_
    refine lv_icmp_gt (tgt := 16) S.1 S.2.1 dX4_isDigit_9 (by decide) (fun c2 => ?_) (fun c2 => ?_)
    · replace h := (if_pos c2).symm.trans h
      refine lv_iconst (v := (0 : Int32)) S.1 S.2.1 dX4_isDigit_16 (by decide) ?_
      obtain rfl := s1 h
      exact fl_pzret S.1 S.2.1 hr hlocks (Or.inl rfl) hW dX4_isDigit_17
    · replace h := (if_neg c2).symm.trans h
      refine lv_iconst (v := (1 : Int32)) S.1 S.2.1 dX4_isDigit_12 (by decide) ?_
      refine lv_goto (tgt := 17) S.1 S.2.1 dX4_isDigit_13 (by decide) ?_
      obtain rfl := s1 h
      exact fl_pzret S.1 S.2.1 hr hlocks (Or.inr rfl) hW dX4_isDigit_17
def fJ6_bitCount_0f7a4 (p0 : Int32) : Option (Int32) :=
  some ((((((((p0 - (((Int32.toUInt32 p0 >>> (Int32.toUInt32 (1 : Int32) &&& Int32.toUInt32 31)).toInt32) &&& (1431655765 : Int32))) &&& (858993459 : Int32)) + (((Int32.toUInt32 (p0 - (((Int32.toUInt32 p0 >>> (Int32.toUInt32 (1 : Int32) &&& Int32.toUInt32 31)).toInt32) &&& (1431655765 : Int32))) >>> (Int32.toUInt32 (2 : Int32) &&& Int32.toUInt32 31)).toInt32) &&& (858993459 : Int32))) + ((Int32.toUInt32 (((p0 - (((Int32.toUInt32 p0 >>> (Int32.toUInt32 (1 : Int32) &&& Int32.toUInt32 31)).toInt32) &&& (1431655765 : Int32))) &&& (858993459 : Int32)) + (((Int32.toUInt32 (p0 - (((Int32.toUInt32 p0 >>> (Int32.toUInt32 (1 : Int32) &&& Int32.toUInt32 31)).toInt32) &&& (1431655765 : Int32))) >>> (Int32.toUInt32 (2 : Int32) &&& Int32.toUInt32 31)).toInt32) &&& (858993459 : Int32))) >>> (Int32.toUInt32 (4 : Int32) &&& Int32.toUInt32 31)).toInt32)) &&& (252645135 : Int32)) + ((Int32.toUInt32 (((((p0 - (((Int32.toUInt32 p0 >>> (Int32.toUInt32 (1 : Int32) &&& Int32.toUInt32 31)).toInt32) &&& (1431655765 : Int32))) &&& (858993459 : Int32)) + (((Int32.toUInt32 (p0 - (((Int32.toUInt32 p0 >>> (Int32.toUInt32 (1 : Int32) &&& Int32.toUInt32 31)).toInt32) &&& (1431655765 : Int32))) >>> (Int32.toUInt32 (2 : Int32) &&& Int32.toUInt32 31)).toInt32) &&& (858993459 : Int32))) + ((Int32.toUInt32 (((p0 - (((Int32.toUInt32 p0 >>> (Int32.toUInt32 (1 : Int32) &&& Int32.toUInt32 31)).toInt32) &&& (1431655765 : Int32))) &&& (858993459 : Int32)) + (((Int32.toUInt32 (p0 - (((Int32.toUInt32 p0 >>> (Int32.toUInt32 (1 : Int32) &&& Int32.toUInt32 31)).toInt32) &&& (1431655765 : Int32))) >>> (Int32.toUInt32 (2 : Int32) &&& Int32.toUInt32 31)).toInt32) &&& (858993459 : Int32))) >>> (Int32.toUInt32 (4 : Int32) &&& Int32.toUInt32 31)).toInt32)) &&& (252645135 : Int32)) >>> (Int32.toUInt32 (8 : Int32) &&& Int32.toUInt32 31)).toInt32)) + ((Int32.toUInt32 ((((((p0 - (((Int32.toUInt32 p0 >>> (Int32.toUInt32 (1 : Int32) &&& Int32.toUInt32 31)).toInt32) &&& (1431655765 : Int32))) &&& (858993459 : Int32)) + (((Int32.toUInt32 (p0 - (((Int32.toUInt32 p0 >>> (Int32.toUInt32 (1 : Int32) &&& Int32.toUInt32 31)).toInt32) &&& (1431655765 : Int32))) >>> (Int32.toUInt32 (2 : Int32) &&& Int32.toUInt32 31)).toInt32) &&& (858993459 : Int32))) + ((Int32.toUInt32 (((p0 - (((Int32.toUInt32 p0 >>> (Int32.toUInt32 (1 : Int32) &&& Int32.toUInt32 31)).toInt32) &&& (1431655765 : Int32))) &&& (858993459 : Int32)) + (((Int32.toUInt32 (p0 - (((Int32.toUInt32 p0 >>> (Int32.toUInt32 (1 : Int32) &&& Int32.toUInt32 31)).toInt32) &&& (1431655765 : Int32))) >>> (Int32.toUInt32 (2 : Int32) &&& Int32.toUInt32 31)).toInt32) &&& (858993459 : Int32))) >>> (Int32.toUInt32 (4 : Int32) &&& Int32.toUInt32 31)).toInt32)) &&& (252645135 : Int32)) + ((Int32.toUInt32 (((((p0 - (((Int32.toUInt32 p0 >>> (Int32.toUInt32 (1 : Int32) &&& Int32.toUInt32 31)).toInt32) &&& (1431655765 : Int32))) &&& (858993459 : Int32)) + (((Int32.toUInt32 (p0 - (((Int32.toUInt32 p0 >>> (Int32.toUInt32 (1 : Int32) &&& Int32.toUInt32 31)).toInt32) &&& (1431655765 : Int32))) >>> (Int32.toUInt32 (2 : Int32) &&& Int32.toUInt32 31)).toInt32) &&& (858993459 : Int32))) + ((Int32.toUInt32 (((p0 - (((Int32.toUInt32 p0 >>> (Int32.toUInt32 (1 : Int32) &&& Int32.toUInt32 31)).toInt32) &&& (1431655765 : Int32))) &&& (858993459 : Int32)) + (((Int32.toUInt32 (p0 - (((Int32.toUInt32 p0 >>> (Int32.toUInt32 (1 : Int32) &&& Int32.toUInt32 31)).toInt32) &&& (1431655765 : Int32))) >>> (Int32.toUInt32 (2 : Int32) &&& Int32.toUInt32 31)).toInt32) &&& (858993459 : Int32))) >>> (Int32.toUInt32 (4 : Int32) &&& Int32.toUInt32 31)).toInt32)) &&& (252645135 : Int32)) >>> (Int32.toUInt32 (8 : Int32) &&& Int32.toUInt32 31)).toInt32)) >>> (Int32.toUInt32 (16 : Int32) &&& Int32.toUInt32 31)).toInt32)) &&& (63 : Int32))
set_option maxHeartbeats 4000000 in
set_option maxRecDepth 100000 in
theorem kJ6_bitCount_0f7a4 (l : Launch)  (p0 : Int32) (r : Int32) (h : fJ6_bitCount_0f7a4 p0 = some r) : Met l yJ6_bitCount_0f7a4 vJ6_bitCount_0f7a4 ({ frames := 0, cells := 0, slots := 0, locals := 0 } : Room) (PcP [.int p0]) (QcP r) 0 0 (fun _ => False) := by
  refine Met.ofW (cc := cJ6_bitCount_0f7a4) (maxL := 1) (ret := (some .int)) (by decide) rfl ?_
  intro p e s m args below meth c s₁ B hml hv
  obtain ⟨rfl, -⟩ := hv
  have hr := B.returns
  have hlocks := B.notSynchronized
  have S : CallFix p m c cJ6_bitCount_0f7a4 1 s ([.int p0] : List Value).toArray vJ6_bitCount_0f7a4 RJ6 := ⟨B.exec, B.bytes, hml, findClass_of_methodNamed B.named, atoms_spec (ws := vJ6_bitCount_0f7a4) B.pre⟩
  have hq : ∀ w ∈ GW, w.before ([.int p0] : List Value).toArray s = true := fun w h => S.2.2.2.2 w (List.mem_cons_of_mem _ h)
  have hW : va_S (fun _ => False) s.heap s.heap [] := va_S.rf
  have hl := lv_entry ([.int p0]) (n := 1) (Nat.le_of_ble_eq_true rfl)
  rw [lg_entry_eq]
  generalize (lg_sl ([.int p0]) ++ List.replicate (1 - (lg_sl ([.int p0])).length) Slot.unset).toArray = ls at hl ⊢
  have hl : lv_has ls 1 [(0, .int p0)] := hl
  rw [fJ6_bitCount_0f7a4] at h
  refine lv_iload_n S.1 S.2.1 dJ6_bitCount_0f7a4_0 rfl (lv_at hl 0 rfl) ?_
  refine lv_iload_n S.1 S.2.1 dJ6_bitCount_0f7a4_1 rfl (lv_at hl 0 rfl) ?_
  refine lv_iconst (v := (1 : Int32)) S.1 S.2.1 dJ6_bitCount_0f7a4_2 (by decide) ?_
  refine lv_iushr S.1 S.2.1 dJ6_bitCount_0f7a4_3 rfl ?_
  refine lv_ldcw S.1 S.2.1 S.2.2.2.1 (hq _ q_208) dJ6_bitCount_0f7a4_4 ?_
  refine lv_iand S.1 S.2.1 dJ6_bitCount_0f7a4_7 ?_
  refine lv_isub S.1 S.2.1 dJ6_bitCount_0f7a4_8 ?_
  refine lv_istore_n (lv' := [(0, .int (p0 - (((Int32.toUInt32 p0 >>> (Int32.toUInt32 (1 : Int32) &&& Int32.toUInt32 31)).toInt32) &&& (1431655765 : Int32))))]) S.1 S.2.1 dJ6_bitCount_0f7a4_9 rfl hl (by decide) rfl (fun ls hl => ?_)
  refine lv_iload_n S.1 S.2.1 dJ6_bitCount_0f7a4_10 rfl (lv_at hl 0 rfl) ?_
  refine lv_ldcw S.1 S.2.1 S.2.2.2.1 (hq _ q_209) dJ6_bitCount_0f7a4_11 ?_
  refine lv_iand S.1 S.2.1 dJ6_bitCount_0f7a4_14 ?_
  refine lv_iload_n S.1 S.2.1 dJ6_bitCount_0f7a4_15 rfl (lv_at hl 0 rfl) ?_
  refine lv_iconst (v := (2 : Int32)) S.1 S.2.1 dJ6_bitCount_0f7a4_16 (by decide) ?_
  refine lv_iushr S.1 S.2.1 dJ6_bitCount_0f7a4_17 rfl ?_
  refine lv_ldcw S.1 S.2.1 S.2.2.2.1 (hq _ q_209) dJ6_bitCount_0f7a4_18 ?_
  refine lv_iand S.1 S.2.1 dJ6_bitCount_0f7a4_21 ?_
  refine lv_iadd S.1 S.2.1 dJ6_bitCount_0f7a4_22 ?_
  refine lv_istore_n (lv' := [(0, .int (((p0 - (((Int32.toUInt32 p0 >>> (Int32.toUInt32 (1 : Int32) &&& Int32.toUInt32 31)).toInt32) &&& (1431655765 : Int32))) &&& (858993459 : Int32)) + (((Int32.toUInt32 (p0 - (((Int32.toUInt32 p0 >>> (Int32.toUInt32 (1 : Int32) &&& Int32.toUInt32 31)).toInt32) &&& (1431655765 : Int32))) >>> (Int32.toUInt32 (2 : Int32) &&& Int32.toUInt32 31)).toInt32) &&& (858993459 : Int32))))]) S.1 S.2.1 dJ6_bitCount_0f7a4_23 rfl hl (by decide) rfl (fun ls hl => ?_)
  refine lv_iload_n S.1 S.2.1 dJ6_bitCount_0f7a4_24 rfl (lv_at hl 0 rfl) ?_
  refine lv_iload_n S.1 S.2.1 dJ6_bitCount_0f7a4_25 rfl (lv_at hl 0 rfl) ?_
  refine lv_iconst (v := (4 : Int32)) S.1 S.2.1 dJ6_bitCount_0f7a4_26 (by decide) ?_
  refine lv_iushr S.1 S.2.1 dJ6_bitCount_0f7a4_27 rfl ?_
  refine lv_iadd S.1 S.2.1 dJ6_bitCount_0f7a4_28 ?_
  refine lv_ldcw S.1 S.2.1 S.2.2.2.1 (hq _ q_210) dJ6_bitCount_0f7a4_29 ?_
  refine lv_iand S.1 S.2.1 dJ6_bitCount_0f7a4_32 ?_
  refine lv_istore_n (lv' := [(0, .int (((((p0 - (((Int32.toUInt32 p0 >>> (Int32.toUInt32 (1 : Int32) &&& Int32.toUInt32 31)).toInt32) &&& (1431655765 : Int32))) &&& (858993459 : Int32)) + (((Int32.toUInt32 (p0 - (((Int32.toUInt32 p0 >>> (Int32.toUInt32 (1 : Int32) &&& Int32.toUInt32 31)).toInt32) &&& (1431655765 : Int32))) >>> (Int32.toUInt32 (2 : Int32) &&& Int32.toUInt32 31)).toInt32) &&& (858993459 : Int32))) + ((Int32.toUInt32 (((p0 - (((Int32.toUInt32 p0 >>> (Int32.toUInt32 (1 : Int32) &&& Int32.toUInt32 31)).toInt32) &&& (1431655765 : Int32))) &&& (858993459 : Int32)) + (((Int32.toUInt32 (p0 - (((Int32.toUInt32 p0 >>> (Int32.toUInt32 (1 : Int32) &&& Int32.toUInt32 31)).toInt32) &&& (1431655765 : Int32))) >>> (Int32.toUInt32 (2 : Int32) &&& Int32.toUInt32 31)).toInt32) &&& (858993459 : Int32))) >>> (Int32.toUInt32 (4 : Int32) &&& Int32.toUInt32 31)).toInt32)) &&& (252645135 : Int32)))]) S.1 S.2.1 dJ6_bitCount_0f7a4_33 rfl hl (by decide) rfl (fun ls hl => ?_)
  refine lv_iload_n S.1 S.2.1 dJ6_bitCount_0f7a4_34 rfl (lv_at hl 0 rfl) ?_
  refine lv_iload_n S.1 S.2.1 dJ6_bitCount_0f7a4_35 rfl (lv_at hl 0 rfl) ?_
  refine lv_bipush (v := (8 : Int32)) S.1 S.2.1 dJ6_bitCount_0f7a4_36 (by decide) ?_
  refine lv_iushr S.1 S.2.1 dJ6_bitCount_0f7a4_38 rfl ?_
  refine lv_iadd S.1 S.2.1 dJ6_bitCount_0f7a4_39 ?_
  refine lv_istore_n (lv' := [(0, .int ((((((p0 - (((Int32.toUInt32 p0 >>> (Int32.toUInt32 (1 : Int32) &&& Int32.toUInt32 31)).toInt32) &&& (1431655765 : Int32))) &&& (858993459 : Int32)) + (((Int32.toUInt32 (p0 - (((Int32.toUInt32 p0 >>> (Int32.toUInt32 (1 : Int32) &&& Int32.toUInt32 31)).toInt32) &&& (1431655765 : Int32))) >>> (Int32.toUInt32 (2 : Int32) &&& Int32.toUInt32 31)).toInt32) &&& (858993459 : Int32))) + ((Int32.toUInt32 (((p0 - (((Int32.toUInt32 p0 >>> (Int32.toUInt32 (1 : Int32) &&& Int32.toUInt32 31)).toInt32) &&& (1431655765 : Int32))) &&& (858993459 : Int32)) + (((Int32.toUInt32 (p0 - (((Int32.toUInt32 p0 >>> (Int32.toUInt32 (1 : Int32) &&& Int32.toUInt32 31)).toInt32) &&& (1431655765 : Int32))) >>> (Int32.toUInt32 (2 : Int32) &&& Int32.toUInt32 31)).toInt32) &&& (858993459 : Int32))) >>> (Int32.toUInt32 (4 : Int32) &&& Int32.toUInt32 31)).toInt32)) &&& (252645135 : Int32)) + ((Int32.toUInt32 (((((p0 - (((Int32.toUInt32 p0 >>> (Int32.toUInt32 (1 : Int32) &&& Int32.toUInt32 31)).toInt32) &&& (1431655765 : Int32))) &&& (858993459 : Int32)) + (((Int32.toUInt32 (p0 - (((Int32.toUInt32 p0 >>> (Int32.toUInt32 (1 : Int32) &&& Int32.toUInt32 31)).toInt32) &&& (1431655765 : Int32))) >>> (Int32.toUInt32 (2 : Int32) &&& Int32.toUInt32 31)).toInt32) &&& (858993459 : Int32))) + ((Int32.toUInt32 (((p0 - (((Int32.toUInt32 p0 >>> (Int32.toUInt32 (1 : Int32) &&& Int32.toUInt32 31)).toInt32) &&& (1431655765 : Int32))) &&& (858993459 : Int32)) + (((Int32.toUInt32 (p0 - (((Int32.toUInt32 p0 >>> (Int32.toUInt32 (1 : Int32) &&& Int32.toUInt32 31)).toInt32) &&& (1431655765 : Int32))) >>> (Int32.toUInt32 (2 : Int32) &&& Int32.toUInt32 31)).toInt32) &&& (858993459 : Int32))) >>> (Int32.toUInt32 (4 : Int32) &&& Int32.toUInt32 31)).toInt32)) &&& (252645135 : Int32)) >>> (Int32.toUInt32 (8 : Int32) &&& Int32.toUInt32 31)).toInt32)))]) S.1 S.2.1 dJ6_bitCount_0f7a4_40 rfl hl (by decide) rfl (fun ls hl => ?_)
  refine lv_iload_n S.1 S.2.1 dJ6_bitCount_0f7a4_41 rfl (lv_at hl 0 rfl) ?_
  refine lv_iload_n S.1 S.2.1 dJ6_bitCount_0f7a4_42 rfl (lv_at hl 0 rfl) ?_
  refine lv_bipush (v := (16 : Int32)) S.1 S.2.1 dJ6_bitCount_0f7a4_43 (by decide) ?_
  refine lv_iushr S.1 S.2.1 dJ6_bitCount_0f7a4_45 rfl ?_
  refine lv_iadd S.1 S.2.1 dJ6_bitCount_0f7a4_46 ?_
  refine lv_istore_n (lv' := [(0, .int (((((((p0 - (((Int32.toUInt32 p0 >>> (Int32.toUInt32 (1 : Int32) &&& Int32.toUInt32 31)).toInt32) &&& (1431655765 : Int32))) &&& (858993459 : Int32)) + (((Int32.toUInt32 (p0 - (((Int32.toUInt32 p0 >>> (Int32.toUInt32 (1 : Int32) &&& Int32.toUInt32 31)).toInt32) &&& (1431655765 : Int32))) >>> (Int32.toUInt32 (2 : Int32) &&& Int32.toUInt32 31)).toInt32) &&& (858993459 : Int32))) + ((Int32.toUInt32 (((p0 - (((Int32.toUInt32 p0 >>> (Int32.toUInt32 (1 : Int32) &&& Int32.toUInt32 31)).toInt32) &&& (1431655765 : Int32))) &&& (858993459 : Int32)) + (((Int32.toUInt32 (p0 - (((Int32.toUInt32 p0 >>> (Int32.toUInt32 (1 : Int32) &&& Int32.toUInt32 31)).toInt32) &&& (1431655765 : Int32))) >>> (Int32.toUInt32 (2 : Int32) &&& Int32.toUInt32 31)).toInt32) &&& (858993459 : Int32))) >>> (Int32.toUInt32 (4 : Int32) &&& Int32.toUInt32 31)).toInt32)) &&& (252645135 : Int32)) + ((Int32.toUInt32 (((((p0 - (((Int32.toUInt32 p0 >>> (Int32.toUInt32 (1 : Int32) &&& Int32.toUInt32 31)).toInt32) &&& (1431655765 : Int32))) &&& (858993459 : Int32)) + (((Int32.toUInt32 (p0 - (((Int32.toUInt32 p0 >>> (Int32.toUInt32 (1 : Int32) &&& Int32.toUInt32 31)).toInt32) &&& (1431655765 : Int32))) >>> (Int32.toUInt32 (2 : Int32) &&& Int32.toUInt32 31)).toInt32) &&& (858993459 : Int32))) + ((Int32.toUInt32 (((p0 - (((Int32.toUInt32 p0 >>> (Int32.toUInt32 (1 : Int32) &&& Int32.toUInt32 31)).toInt32) &&& (1431655765 : Int32))) &&& (858993459 : Int32)) + (((Int32.toUInt32 (p0 - (((Int32.toUInt32 p0 >>> (Int32.toUInt32 (1 : Int32) &&& Int32.toUInt32 31)).toInt32) &&& (1431655765 : Int32))) >>> (Int32.toUInt32 (2 : Int32) &&& Int32.toUInt32 31)).toInt32) &&& (858993459 : Int32))) >>> (Int32.toUInt32 (4 : Int32) &&& Int32.toUInt32 31)).toInt32)) &&& (252645135 : Int32)) >>> (Int32.toUInt32 (8 : Int32) &&& Int32.toUInt32 31)).toInt32)) + ((Int32.toUInt32 ((((((p0 - (((Int32.toUInt32 p0 >>> (Int32.toUInt32 (1 : Int32) &&& Int32.toUInt32 31)).toInt32) &&& (1431655765 : Int32))) &&& (858993459 : Int32)) + (((Int32.toUInt32 (p0 - (((Int32.toUInt32 p0 >>> (Int32.toUInt32 (1 : Int32) &&& Int32.toUInt32 31)).toInt32) &&& (1431655765 : Int32))) >>> (Int32.toUInt32 (2 : Int32) &&& Int32.toUInt32 31)).toInt32) &&& (858993459 : Int32))) + ((Int32.toUInt32 (((p0 - (((Int32.toUInt32 p0 >>> (Int32.toUInt32 (1 : Int32) &&& Int32.toUInt32 31)).toInt32) &&& (1431655765 : Int32))) &&& (858993459 : Int32)) + (((Int32.toUInt32 (p0 - (((Int32.toUInt32 p0 >>> (Int32.toUInt32 (1 : Int32) &&& Int32.toUInt32 31)).toInt32) &&& (1431655765 : Int32))) >>> (Int32.toUInt32 (2 : Int32) &&& Int32.toUInt32 31)).toInt32) &&& (858993459 : Int32))) >>> (Int32.toUInt32 (4 : Int32) &&& Int32.toUInt32 31)).toInt32)) &&& (252645135 : Int32)) + ((Int32.toUInt32 (((((p0 - (((Int32.toUInt32 p0 >>> (Int32.toUInt32 (1 : Int32) &&& Int32.toUInt32 31)).toInt32) &&& (1431655765 : Int32))) &&& (858993459 : Int32)) + (((Int32.toUInt32 (p0 - (((Int32.toUInt32 p0 >>> (Int32.toUInt32 (1 : Int32) &&& Int32.toUInt32 31)).toInt32) &&& (1431655765 : Int32))) >>> (Int32.toUInt32 (2 : Int32) &&& Int32.toUInt32 31)).toInt32) &&& (858993459 : Int32))) + ((Int32.toUInt32 (((p0 - (((Int32.toUInt32 p0 >>> (Int32.toUInt32 (1 : Int32) &&& Int32.toUInt32 31)).toInt32) &&& (1431655765 : Int32))) &&& (858993459 : Int32)) + (((Int32.toUInt32 (p0 - (((Int32.toUInt32 p0 >>> (Int32.toUInt32 (1 : Int32) &&& Int32.toUInt32 31)).toInt32) &&& (1431655765 : Int32))) >>> (Int32.toUInt32 (2 : Int32) &&& Int32.toUInt32 31)).toInt32) &&& (858993459 : Int32))) >>> (Int32.toUInt32 (4 : Int32) &&& Int32.toUInt32 31)).toInt32)) &&& (252645135 : Int32)) >>> (Int32.toUInt32 (8 : Int32) &&& Int32.toUInt32 31)).toInt32)) >>> (Int32.toUInt32 (16 : Int32) &&& Int32.toUInt32 31)).toInt32)))]) S.1 S.2.1 dJ6_bitCount_0f7a4_47 rfl hl (by decide) rfl (fun ls hl => ?_)
  refine lv_iload_n S.1 S.2.1 dJ6_bitCount_0f7a4_48 rfl (lv_at hl 0 rfl) ?_
  refine lv_bipush (v := (63 : Int32)) S.1 S.2.1 dJ6_bitCount_0f7a4_49 (by decide) ?_
  refine lv_iand S.1 S.2.1 dJ6_bitCount_0f7a4_51 ?_
  obtain rfl := s1 h
  exact fl_pret S.1 S.2.1 hr hlocks hW dJ6_bitCount_0f7a4_52
def fX6_power_L4 (p0 : Int32) (p1 : Int32) : Nat → Int32 → Int32 → Option (Int32 × Int32)
  | 0, _, _ => none
  | n + 1, x2, x3 => if p1 ≤ x3 then (some (x2, x3)) else (fX6_power_L4 p0 p1 n (x2 * p0) (x3 + (1 : Int32)))
def fX6_power (p0 : Int32) (p1 : Int32) : Option (Int32) :=
  b2 (fX6_power_L4 p0 p1 50000 (1 : Int32) (0 : Int32)) (fun (w1 : Int32) (w2 : Int32) => some w1)
set_option maxHeartbeats 4000000 in
set_option maxRecDepth 100000 in
theorem kX6_power (l : Launch)  (p0 : Int32) (p1 : Int32) (r : Int32) (h : fX6_power p0 p1 = some r) : Met l yX6_power vX6_power ({ frames := 0, cells := 0, slots := 0, locals := 0 } : Room) (PcP [.int p0, .int p1]) (QcP r) 0 0 (fun _ => False) := by
  refine Met.ofW (cc := cX6_power) (maxL := 4) (ret := (some .int)) (by decide) rfl ?_
  intro p e s m args below meth c s₁ B hml hv
  obtain ⟨rfl, -⟩ := hv
  have hr := B.returns
  have hlocks := B.notSynchronized
  have S : CallFix p m c cX6_power 4 s ([.int p0, .int p1] : List Value).toArray vX6_power RX6 := ⟨B.exec, B.bytes, hml, findClass_of_methodNamed B.named, atoms_spec (ws := vX6_power) B.pre⟩
  have hq : ∀ w ∈ GW, w.before ([.int p0, .int p1] : List Value).toArray s = true := fun w h => S.2.2.2.2 w (List.mem_cons_of_mem _ h)
  have hW : va_S (fun _ => False) s.heap s.heap [] := va_S.rf
  have hl := lv_entry ([.int p0, .int p1]) (n := 4) (Nat.le_of_ble_eq_true rfl)
  rw [lg_entry_eq]
  generalize (lg_sl ([.int p0, .int p1]) ++ List.replicate (4 - (lg_sl ([.int p0, .int p1])).length) Slot.unset).toArray = ls at hl ⊢
  have hl : lv_has ls 4 [(0, .int p0), (1, .int p1)] := hl
  rw [fX6_power] at h
  refine lv_iconst (v := (1 : Int32)) S.1 S.2.1 dX6_power_0 (by decide) ?_
  refine lv_istore_n (lv' := [(2, .int (1 : Int32)), (0, .int p0), (1, .int p1)]) S.1 S.2.1 dX6_power_1 rfl hl (by decide) rfl (fun ls hl => ?_)
  refine lv_iconst (v := (0 : Int32)) S.1 S.2.1 dX6_power_2 (by decide) ?_
  refine lv_istore_n (lv' := [(3, .int (0 : Int32)), (2, .int (1 : Int32)), (0, .int p0), (1, .int p1)]) S.1 S.2.1 dX6_power_3 rfl hl (by decide) rfl (fun ls hl => ?_)
  have L4 : ∀ (n : Nat) (x2 : Int32) (x3 : Int32) (w1 : Int32) (w2 : Int32), fX6_power_L4 p0 p1 n x2 x3 = some (w1, w2) → ∀ (H : Heap) (locs : List Loc) (ls : Array Slot), lv_has ls 4 [(0, .int p0), (1, .int p1), (2, .int x2), (3, .int x3)] → va_S (fun _ => False) s.heap H locs → (∀ (H : Heap) (locs : List Loc) (ls : Array Slot), lv_has ls 4 [(0, .int p0), (1, .int p1), (2, .int w1), (3, .int w2)] → va_S (fun _ => False) s.heap H locs → W p l e (headSpec vX6_power ({ frames := 0, cells := 0, slots := 0, locals := 0 } : Room)).room s m ([.int p0, .int p1] : List Value).toArray below meth c H locs 0 0 (MQ below (QcP r) ([.int p0, .int p1] : List Value).toArray s 0 0 (fun _ => False)) (F0 m 19 ls [])) → W p l e (headSpec vX6_power ({ frames := 0, cells := 0, slots := 0, locals := 0 } : Room)).room s m ([.int p0, .int p1] : List Value).toArray below meth c H locs 0 0 (MQ below (QcP r) ([.int p0, .int p1] : List Value).toArray s 0 0 (fun _ => False)) (F0 m 4 ls []) := by
    intro n
    induction n with
    | zero => intro x2 x3 w1 w2 h; cases h
    | succ n ih =>
      intro x2 x3 w1 w2 h H locs ls hl hW K
      rw [fX6_power_L4] at h
      refine lv_iload_n S.1 S.2.1 dX6_power_4 rfl (lv_at hl 3 rfl) ?_
      refine lv_iload_n S.1 S.2.1 dX6_power_5 rfl (lv_at hl 1 rfl) ?_
      refine lv_icmp_ge (tgt := 19) S.1 S.2.1 dX6_power_6 (by decide) (fun c3 => ?_) (fun c3 => ?_)
      · replace h := (if_pos c3).symm.trans h
        obtain ⟨rfl, rfl⟩ := s2 h
        exact K _ _ _ hl hW
      · replace h := (if_neg c3).symm.trans h
        refine lv_iload_n S.1 S.2.1 dX6_power_9 rfl (lv_at hl 2 rfl) ?_
        refine lv_iload_n S.1 S.2.1 dX6_power_10 rfl (lv_at hl 0 rfl) ?_
        refine lv_imul S.1 S.2.1 dX6_power_11 ?_
        refine lv_istore_n (lv' := [(2, .int (x2 * p0)), (0, .int p0), (1, .int p1), (3, .int x3)]) S.1 S.2.1 dX6_power_12 rfl hl (by decide) rfl (fun ls hl => ?_)
        refine lv_iinc (v := x3 + (1 : Int32)) (lv' := [(3, .int (x3 + (1 : Int32))), (2, .int (x2 * p0)), (0, .int p0), (1, .int p1)]) S.1 S.2.1 dX6_power_13 hl (k := 3) rfl rfl (by decide) rfl (fun ls hl => ?_)
        refine lv_goto (tgt := 4) S.1 S.2.1 dX6_power_16 (by decide) ?_
        exact ih _ _ _ _ h _ _ _ (lv_sub hl [2, 3, 1, 0] rfl) hW K
  obtain ⟨w1, w2, u4, h⟩ := b2_some h
  refine L4 50000 _ _ _ _ u4 _ _ _ (lv_sub hl [2, 3, 1, 0] rfl) hW (fun H locs ls hl hW => ?_)
  clear L4
  refine lv_iload_n S.1 S.2.1 dX6_power_19 rfl (lv_at hl 2 rfl) ?_
  obtain rfl := s1 h
  exact fl_pret S.1 S.2.1 hr hlocks hW dX6_power_20
def fX6_greatestDivisor_L7  : Nat → Int32 → Int32 → Int32 → Option (Int32 × Int32 × Int32)
  | 0, _, _, _ => none
  | n + 1, x2, x3, x4 => if (40 : Int32) ≤ x4 then (some (x2, x3, x4)) else (if x3 = 0 then (some (x2, x3, x4)) else (nz x3 (fX6_greatestDivisor_L7 n x3 (x2 - x2 / x3 * x3) (x4 + (1 : Int32)))))
def fX6_greatestDivisor (p0 : Int32) (p1 : Int32) : Option (Int32) :=
  b3 (fX6_greatestDivisor_L7 50000 p0 p1 (0 : Int32)) (fun (w1 : Int32) (w2 : Int32) (w3 : Int32) => some w1)
set_option maxHeartbeats 4000000 in
set_option maxRecDepth 100000 in
theorem kX6_greatestDivisor (l : Launch)  (p0 : Int32) (p1 : Int32) (r : Int32) (h : fX6_greatestDivisor p0 p1 = some r) : Met l yX6_greatestDivisor vX6_greatestDivisor ({ frames := 0, cells := 0, slots := 0, locals := 0 } : Room) (PcP [.int p0, .int p1]) (QcP r) 0 0 (fun _ => False) := by
  refine Met.ofW (cc := cX6_greatestDivisor) (maxL := 6) (ret := (some .int)) (by decide) rfl ?_
  intro p e s m args below meth c s₁ B hml hv
  obtain ⟨rfl, -⟩ := hv
  have hr := B.returns
  have hlocks := B.notSynchronized
  have S : CallFix p m c cX6_greatestDivisor 6 s ([.int p0, .int p1] : List Value).toArray vX6_greatestDivisor RX6 := ⟨B.exec, B.bytes, hml, findClass_of_methodNamed B.named, atoms_spec (ws := vX6_greatestDivisor) B.pre⟩
  have hq : ∀ w ∈ GW, w.before ([.int p0, .int p1] : List Value).toArray s = true := fun w h => S.2.2.2.2 w (List.mem_cons_of_mem _ h)
  have hW : va_S (fun _ => False) s.heap s.heap [] := va_S.rf
  have hl := lv_entry ([.int p0, .int p1]) (n := 6) (Nat.le_of_ble_eq_true rfl)
  rw [lg_entry_eq]
  generalize (lg_sl ([.int p0, .int p1]) ++ List.replicate (6 - (lg_sl ([.int p0, .int p1])).length) Slot.unset).toArray = ls at hl ⊢
  have hl : lv_has ls 6 [(0, .int p0), (1, .int p1)] := hl
  rw [fX6_greatestDivisor] at h
  refine lv_iload_n S.1 S.2.1 dX6_greatestDivisor_0 rfl (lv_at hl 0 rfl) ?_
  refine lv_istore_n (lv' := [(2, .int p0), (0, .int p0), (1, .int p1)]) S.1 S.2.1 dX6_greatestDivisor_1 rfl hl (by decide) rfl (fun ls hl => ?_)
  refine lv_iload_n S.1 S.2.1 dX6_greatestDivisor_2 rfl (lv_at hl 2 rfl) ?_
  refine lv_istore_n (lv' := [(3, .int p1), (2, .int p0), (0, .int p0), (1, .int p1)]) S.1 S.2.1 dX6_greatestDivisor_3 rfl hl (by decide) rfl (fun ls hl => ?_)
  refine lv_iconst (v := (0 : Int32)) S.1 S.2.1 dX6_greatestDivisor_4 (by decide) ?_
  refine lv_istore (lv' := [(4, .int (0 : Int32)), (3, .int p1), (2, .int p0), (0, .int p0), (1, .int p1)]) S.1 S.2.1 dX6_greatestDivisor_5 hl (by decide) rfl (fun ls hl => ?_)
  have L7 : ∀ (n : Nat) (x2 : Int32) (x3 : Int32) (x4 : Int32) (w1 : Int32) (w2 : Int32) (w3 : Int32), fX6_greatestDivisor_L7 n x2 x3 x4 = some (w1, w2, w3) → ∀ (H : Heap) (locs : List Loc) (ls : Array Slot), lv_has ls 6 [(0, .int p0), (1, .int p1), (2, .int x2), (3, .int x3), (4, .int x4)] → va_S (fun _ => False) s.heap H locs → (∀ (H : Heap) (locs : List Loc) (ls : Array Slot), lv_has ls 6 [(0, .int p0), (1, .int p1), (2, .int w1), (3, .int w2), (4, .int w3)] → va_S (fun _ => False) s.heap H locs → W p l e (headSpec vX6_greatestDivisor ({ frames := 0, cells := 0, slots := 0, locals := 0 } : Room)).room s m ([.int p0, .int p1] : List Value).toArray below meth c H locs 0 0 (MQ below (QcP r) ([.int p0, .int p1] : List Value).toArray s 0 0 (fun _ => False)) (F0 m 34 ls [])) → W p l e (headSpec vX6_greatestDivisor ({ frames := 0, cells := 0, slots := 0, locals := 0 } : Room)).room s m ([.int p0, .int p1] : List Value).toArray below meth c H locs 0 0 (MQ below (QcP r) ([.int p0, .int p1] : List Value).toArray s 0 0 (fun _ => False)) (F0 m 7 ls []) := by
    intro n
    induction n with
    | zero => intro x2 x3 x4 w1 w2 w3 h; cases h
    | succ n ih =>
      intro x2 x3 x4 w1 w2 w3 h H locs ls hl hW K
      rw [fX6_greatestDivisor_L7] at h
      refine lv_iload S.1 S.2.1 dX6_greatestDivisor_7 (lv_at hl 4 rfl) ?_
      refine lv_bipush (v := (40 : Int32)) S.1 S.2.1 dX6_greatestDivisor_9 (by decide) ?_
      refine lv_icmp_ge (tgt := 34) S.1 S.2.1 dX6_greatestDivisor_11 (by decide) (fun c4 => ?_) (fun c4 => ?_)
      · replace h := (if_pos c4).symm.trans h
        obtain ⟨rfl, rfl, rfl⟩ := s3 h
        exact K _ _ _ hl hW
      · replace h := (if_neg c4).symm.trans h
        refine lv_iload_n S.1 S.2.1 dX6_greatestDivisor_14 rfl (lv_at hl 3 rfl) ?_
        refine lv_if_eq (tgt := 34) S.1 S.2.1 dX6_greatestDivisor_15 (by decide) (fun c5 => ?_) (fun c5 => ?_)
        · replace h := (if_pos c5).symm.trans h
          obtain ⟨rfl, rfl, rfl⟩ := s3 h
          exact K _ _ _ hl hW
        · replace h := (if_neg c5).symm.trans h
          refine lv_iload_n S.1 S.2.1 dX6_greatestDivisor_18 rfl (lv_at hl 2 rfl) ?_
          refine lv_iload_n S.1 S.2.1 dX6_greatestDivisor_19 rfl (lv_at hl 3 rfl) ?_
          obtain ⟨g6, h⟩ := nz_some h
          refine lv_irem S.1 S.2.1 dX6_greatestDivisor_20 g6 ?_
          refine lv_istore (lv' := [(5, .int (x2 - x2 / x3 * x3)), (0, .int p0), (1, .int p1), (2, .int x2), (3, .int x3), (4, .int x4)]) S.1 S.2.1 dX6_greatestDivisor_21 hl (by decide) rfl (fun ls hl => ?_)
          refine lv_iload_n S.1 S.2.1 dX6_greatestDivisor_23 rfl (lv_at hl 4 rfl) ?_
          refine lv_istore_n (lv' := [(2, .int x3), (5, .int (x2 - x2 / x3 * x3)), (0, .int p0), (1, .int p1), (3, .int x3), (4, .int x4)]) S.1 S.2.1 dX6_greatestDivisor_24 rfl hl (by decide) rfl (fun ls hl => ?_)
          refine lv_iload S.1 S.2.1 dX6_greatestDivisor_25 (lv_at hl 1 rfl) ?_
          refine lv_istore_n (lv' := [(3, .int (x2 - x2 / x3 * x3)), (2, .int x3), (5, .int (x2 - x2 / x3 * x3)), (0, .int p0), (1, .int p1), (4, .int x4)]) S.1 S.2.1 dX6_greatestDivisor_27 rfl hl (by decide) rfl (fun ls hl => ?_)
          refine lv_iinc (v := x4 + (1 : Int32)) (lv' := [(4, .int (x4 + (1 : Int32))), (3, .int (x2 - x2 / x3 * x3)), (2, .int x3), (5, .int (x2 - x2 / x3 * x3)), (0, .int p0), (1, .int p1)]) S.1 S.2.1 dX6_greatestDivisor_28 hl (k := 5) rfl rfl (by decide) rfl (fun ls hl => ?_)
          refine lv_goto (tgt := 7) S.1 S.2.1 dX6_greatestDivisor_31 (by decide) ?_
          exact ih _ _ _ _ _ _ h _ _ _ (lv_sub hl [4, 5, 2, 1, 0] rfl) hW K
  obtain ⟨w1, w2, w3, u7, h⟩ := b3_some h
  refine L7 50000 _ _ _ _ _ _ u7 _ _ _ (lv_sub hl [3, 4, 2, 1, 0] rfl) hW (fun H locs ls hl hW => ?_)
  clear L7
  refine lv_iload_n S.1 S.2.1 dX6_greatestDivisor_34 rfl (lv_at hl 2 rfl) ?_
  obtain rfl := s1 h
  exact fl_pret S.1 S.2.1 hr hlocks hW dX6_greatestDivisor_35
def fX6_isImage (p0 : Int32) : Option (Int32) :=
  if p0 < 0 then (some (0 : Int32)) else (if (2 : Int32) ≤ p0 then (some (0 : Int32)) else (some (1 : Int32)))
set_option maxHeartbeats 4000000 in
set_option maxRecDepth 100000 in
theorem kX6_isImage (l : Launch)  (p0 : Int32) (r : Int32) (h : fX6_isImage p0 = some r) : Met l yX6_isImage vX6_isImage ({ frames := 0, cells := 0, slots := 0, locals := 0 } : Room) (PcP [.int p0]) (QcP r) 0 0 (fun _ => False) := by
  refine Met.ofW (cc := cX6_isImage) (maxL := 1) (ret := (some .boolean)) (by decide) rfl ?_
  intro p e s m args below meth c s₁ B hml hv
  obtain ⟨rfl, -⟩ := hv
  have hr := B.returns
  have hlocks := B.notSynchronized
  have S : CallFix p m c cX6_isImage 1 s ([.int p0] : List Value).toArray vX6_isImage RX6 := ⟨B.exec, B.bytes, hml, findClass_of_methodNamed B.named, atoms_spec (ws := vX6_isImage) B.pre⟩
  have hq : ∀ w ∈ GW, w.before ([.int p0] : List Value).toArray s = true := fun w h => S.2.2.2.2 w (List.mem_cons_of_mem _ h)
  have hW : va_S (fun _ => False) s.heap s.heap [] := va_S.rf
  have hl := lv_entry ([.int p0]) (n := 1) (Nat.le_of_ble_eq_true rfl)
  rw [lg_entry_eq]
  generalize (lg_sl ([.int p0]) ++ List.replicate (1 - (lg_sl ([.int p0])).length) Slot.unset).toArray = ls at hl ⊢
  have hl : lv_has ls 1 [(0, .int p0)] := hl
  rw [fX6_isImage] at h
  refine lv_iload_n S.1 S.2.1 dX6_isImage_0 rfl (lv_at hl 0 rfl) ?_
  refine lv_if_lt (tgt := 13) S.1 S.2.1 dX6_isImage_1 (by decide) (fun c1 => ?_) (fun c1 => ?_)
  · replace h := (if_pos c1).symm.trans h
    refine lv_iconst (v := (0 : Int32)) S.1 S.2.1 dX6_isImage_13 (by decide) ?_
    obtain rfl := s1 h
    exact fl_pzret S.1 S.2.1 hr hlocks (Or.inl rfl) hW dX6_isImage_14
  · replace h := (if_neg c1).symm.trans h
    refine lv_iload_n S.1 S.2.1 dX6_isImage_4 rfl (lv_at hl 0 rfl) ?_
    refine lv_iconst (v := (2 : Int32)) S.1 S.2.1 dX6_isImage_5 (by decide) ?_
    refine lv_icmp_ge (tgt := 13) S.1 S.2.1 dX6_isImage_6 (by decide) (fun c2 => ?_) (fun c2 => ?_)
    · replace h := (if_pos c2).symm.trans h
      refine lv_iconst (v := (0 : Int32)) S.1 S.2.1 dX6_isImage_13 (by decide) ?_
      obtain rfl := s1 h
      exact fl_pzret S.1 S.2.1 hr hlocks (Or.inl rfl) hW dX6_isImage_14
    · replace h := (if_neg c2).symm.trans h
      refine lv_iconst (v := (1 : Int32)) S.1 S.2.1 dX6_isImage_9 (by decide) ?_
      refine lv_goto (tgt := 14) S.1 S.2.1 dX6_isImage_10 (by decide) ?_
      obtain rfl := s1 h
      exact fl_pzret S.1 S.2.1 hr hlocks (Or.inr rfl) hW dX6_isImage_14
def fX7_in (p0 : Int32) (p1 : Int32) (p2 : Int32) : Option (Int32) :=
  if p0 < p1 then (some (0 : Int32)) else (if p2 < p0 then (some (0 : Int32)) else (some (1 : Int32)))
set_option maxHeartbeats 4000000 in
set_option maxRecDepth 100000 in
theorem kX7_in (l : Launch)  (p0 : Int32) (p1 : Int32) (p2 : Int32) (r : Int32) (h : fX7_in p0 p1 p2 = some r) : Met l yX7_in vX7_in ({ frames := 0, cells := 0, slots := 0, locals := 0 } : Room) (PcP [.int p0, .int p1, .int p2]) (QcP r) 0 0 (fun _ => False) := by
  refine Met.ofW (cc := cX7_in) (maxL := 3) (ret := (some .boolean)) (by decide) rfl ?_
  intro p e s m args below meth c s₁ B hml hv
  obtain ⟨rfl, -⟩ := hv
  have hr := B.returns
  have hlocks := B.notSynchronized
  have S : CallFix p m c cX7_in 3 s ([.int p0, .int p1, .int p2] : List Value).toArray vX7_in RX7 := ⟨B.exec, B.bytes, hml, findClass_of_methodNamed B.named, atoms_spec (ws := vX7_in) B.pre⟩
  have hq : ∀ w ∈ GW, w.before ([.int p0, .int p1, .int p2] : List Value).toArray s = true := fun w h => S.2.2.2.2 w (List.mem_cons_of_mem _ h)
  have hW : va_S (fun _ => False) s.heap s.heap [] := va_S.rf
  have hl := lv_entry ([.int p0, .int p1, .int p2]) (n := 3) (Nat.le_of_ble_eq_true rfl)
  rw [lg_entry_eq]
  generalize (lg_sl ([.int p0, .int p1, .int p2]) ++ List.replicate (3 - (lg_sl ([.int p0, .int p1, .int p2])).length) Slot.unset).toArray = ls at hl ⊢
  have hl : lv_has ls 3 [(0, .int p0), (1, .int p1), (2, .int p2)] := hl
  rw [fX7_in] at h
  refine lv_iload_n S.1 S.2.1 dX7_in_0 rfl (lv_at hl 0 rfl) ?_
  refine lv_iload_n S.1 S.2.1 dX7_in_1 rfl (lv_at hl 1 rfl) ?_
  refine lv_icmp_lt (tgt := 14) S.1 S.2.1 dX7_in_2 (by decide) (fun c1 => ?_) (fun c1 => ?_)
  · replace h := (if_pos c1).symm.trans h
    refine lv_iconst (v := (0 : Int32)) S.1 S.2.1 dX7_in_14 (by decide) ?_
    obtain rfl := s1 h
    exact fl_pzret S.1 S.2.1 hr hlocks (Or.inl rfl) hW dX7_in_15
  · replace h := (if_neg c1).symm.trans h
    refine lv_iload_n S.1 S.2.1 dX7_in_5 rfl (lv_at hl 0 rfl) ?_
    refine lv_iload_n S.1 S.2.1 dX7_in_6 rfl (lv_at hl 2 rfl) ?_
    refine lv_icmp_gt (tgt := 14) S.1 S.2.1 dX7_in_7 (by decide) (fun c2 => ?_) (fun c2 => ?_)
    · replace h := (if_pos c2).symm.trans h
      refine lv_iconst (v := (0 : Int32)) S.1 S.2.1 dX7_in_14 (by decide) ?_
      obtain rfl := s1 h
      exact fl_pzret S.1 S.2.1 hr hlocks (Or.inl rfl) hW dX7_in_15
    · replace h := (if_neg c2).symm.trans h
      refine lv_iconst (v := (1 : Int32)) S.1 S.2.1 dX7_in_10 (by decide) ?_
      refine lv_goto (tgt := 15) S.1 S.2.1 dX7_in_11 (by decide) ?_
      obtain rfl := s1 h
      exact fl_pzret S.1 S.2.1 hr hlocks (Or.inr rfl) hW dX7_in_15
def fX7_has (p0 : Int32) (p1 : Int32) : Option (Int32) :=
  if ((p0 >>> (p1 &&& 31)) &&& (1 : Int32)) = (1 : Int32) then (some (1 : Int32)) else (some (0 : Int32))
set_option maxHeartbeats 4000000 in
set_option maxRecDepth 100000 in
theorem kX7_has (l : Launch)  (p0 : Int32) (p1 : Int32) (r : Int32) (h : fX7_has p0 p1 = some r) : Met l yX7_has vX7_has ({ frames := 0, cells := 0, slots := 0, locals := 0 } : Room) (PcP [.int p0, .int p1]) (QcP r) 0 0 (fun _ => False) := by
  refine Met.ofW (cc := cX7_has) (maxL := 2) (ret := (some .boolean)) (by decide) rfl ?_
  intro p e s m args below meth c s₁ B hml hv
  obtain ⟨rfl, -⟩ := hv
  have hr := B.returns
  have hlocks := B.notSynchronized
  have S : CallFix p m c cX7_has 2 s ([.int p0, .int p1] : List Value).toArray vX7_has RX7 := ⟨B.exec, B.bytes, hml, findClass_of_methodNamed B.named, atoms_spec (ws := vX7_has) B.pre⟩
  have hq : ∀ w ∈ GW, w.before ([.int p0, .int p1] : List Value).toArray s = true := fun w h => S.2.2.2.2 w (List.mem_cons_of_mem _ h)
  have hW : va_S (fun _ => False) s.heap s.heap [] := va_S.rf
  have hl := lv_entry ([.int p0, .int p1]) (n := 2) (Nat.le_of_ble_eq_true rfl)
  rw [lg_entry_eq]
  generalize (lg_sl ([.int p0, .int p1]) ++ List.replicate (2 - (lg_sl ([.int p0, .int p1])).length) Slot.unset).toArray = ls at hl ⊢
  have hl : lv_has ls 2 [(0, .int p0), (1, .int p1)] := hl
  rw [fX7_has] at h
  refine lv_iload_n S.1 S.2.1 dX7_has_0 rfl (lv_at hl 0 rfl) ?_
  refine lv_iload_n S.1 S.2.1 dX7_has_1 rfl (lv_at hl 1 rfl) ?_
  refine lv_ishr S.1 S.2.1 dX7_has_2 ?_
  refine lv_iconst (v := (1 : Int32)) S.1 S.2.1 dX7_has_3 (by decide) ?_
  refine lv_iand S.1 S.2.1 dX7_has_4 ?_
  refine lv_iconst (v := (1 : Int32)) S.1 S.2.1 dX7_has_5 (by decide) ?_
  refine lv_icmp_ne (tgt := 13) S.1 S.2.1 dX7_has_6 (by decide) (fun c1 => ?_) (fun c1 => ?_)
  · replace h := (if_neg c1).symm.trans h
    refine lv_iconst (v := (0 : Int32)) S.1 S.2.1 dX7_has_13 (by decide) ?_
    obtain rfl := s1 h
    exact fl_pzret S.1 S.2.1 hr hlocks (Or.inl rfl) hW dX7_has_14
  · replace h := (if_pos c1).symm.trans h
    refine lv_iconst (v := (1 : Int32)) S.1 S.2.1 dX7_has_9 (by decide) ?_
    refine lv_goto (tgt := 14) S.1 S.2.1 dX7_has_10 (by decide) ?_
    obtain rfl := s1 h
    exact fl_pzret S.1 S.2.1 hr hlocks (Or.inr rfl) hW dX7_has_14
def fX7_ones_L4 (p0 : Int32) : Nat → Int32 → Int32 → Option (Int32 × Int32)
  | 0, _, _ => none
  | n + 1, x1, x2 => if (6 : Int32) ≤ x2 then (some (x1, x2)) else (fX7_ones_L4 p0 n (x1 + ((p0 >>> (x2 &&& 31)) &&& (1 : Int32))) (x2 + (1 : Int32)))
def fX7_ones (p0 : Int32) : Option (Int32) :=
  b2 (fX7_ones_L4 p0 50000 (0 : Int32) (0 : Int32)) (fun (w1 : Int32) (w2 : Int32) => some w1)
set_option maxHeartbeats 4000000 in
set_option maxRecDepth 100000 in
theorem kX7_ones (l : Launch)  (p0 : Int32) (r : Int32) (h : fX7_ones p0 = some r) : Met l yX7_ones vX7_ones ({ frames := 0, cells := 0, slots := 0, locals := 0 } : Room) (PcP [.int p0]) (QcP r) 0 0 (fun _ => False) := by
  refine Met.ofW (cc := cX7_ones) (maxL := 3) (ret := (some .int)) (by decide) rfl ?_
  intro p e s m args below meth c s₁ B hml hv
  obtain ⟨rfl, -⟩ := hv
  have hr := B.returns
  have hlocks := B.notSynchronized
  have S : CallFix p m c cX7_ones 3 s ([.int p0] : List Value).toArray vX7_ones RX7 := ⟨B.exec, B.bytes, hml, findClass_of_methodNamed B.named, atoms_spec (ws := vX7_ones) B.pre⟩
  have hq : ∀ w ∈ GW, w.before ([.int p0] : List Value).toArray s = true := fun w h => S.2.2.2.2 w (List.mem_cons_of_mem _ h)
  have hW : va_S (fun _ => False) s.heap s.heap [] := va_S.rf
  have hl := lv_entry ([.int p0]) (n := 3) (Nat.le_of_ble_eq_true rfl)
  rw [lg_entry_eq]
  generalize (lg_sl ([.int p0]) ++ List.replicate (3 - (lg_sl ([.int p0])).length) Slot.unset).toArray = ls at hl ⊢
  have hl : lv_has ls 3 [(0, .int p0)] := hl
  rw [fX7_ones] at h
  refine lv_iconst (v := (0 : Int32)) S.1 S.2.1 dX7_ones_0 (by decide) ?_
  refine lv_istore_n (lv' := [(1, .int (0 : Int32)), (0, .int p0)]) S.1 S.2.1 dX7_ones_1 rfl hl (by decide) rfl (fun ls hl => ?_)
  refine lv_iconst (v := (0 : Int32)) S.1 S.2.1 dX7_ones_2 (by decide) ?_
  refine lv_istore_n (lv' := [(2, .int (0 : Int32)), (1, .int (0 : Int32)), (0, .int p0)]) S.1 S.2.1 dX7_ones_3 rfl hl (by decide) rfl (fun ls hl => ?_)
  have L4 : ∀ (n : Nat) (x1 : Int32) (x2 : Int32) (w1 : Int32) (w2 : Int32), fX7_ones_L4 p0 n x1 x2 = some (w1, w2) → ∀ (H : Heap) (locs : List Loc) (ls : Array Slot), lv_has ls 3 [(0, .int p0), (1, .int x1), (2, .int x2)] → va_S (fun _ => False) s.heap H locs → (∀ (H : Heap) (locs : List Loc) (ls : Array Slot), lv_has ls 3 [(0, .int p0), (1, .int w1), (2, .int w2)] → va_S (fun _ => False) s.heap H locs → W p l e (headSpec vX7_ones ({ frames := 0, cells := 0, slots := 0, locals := 0 } : Room)).room s m ([.int p0] : List Value).toArray below meth c H locs 0 0 (MQ below (QcP r) ([.int p0] : List Value).toArray s 0 0 (fun _ => False)) (F0 m 24 ls [])) → W p l e (headSpec vX7_ones ({ frames := 0, cells := 0, slots := 0, locals := 0 } : Room)).room s m ([.int p0] : List Value).toArray below meth c H locs 0 0 (MQ below (QcP r) ([.int p0] : List Value).toArray s 0 0 (fun _ => False)) (F0 m 4 ls []) := by
    intro n
    induction n with
    | zero => intro x1 x2 w1 w2 h; cases h
    | succ n ih =>
      intro x1 x2 w1 w2 h H locs ls hl hW K
      rw [fX7_ones_L4] at h
      refine lv_iload_n S.1 S.2.1 dX7_ones_4 rfl (lv_at hl 2 rfl) ?_
      refine lv_bipush (v := (6 : Int32)) S.1 S.2.1 dX7_ones_5 (by decide) ?_
      refine lv_icmp_ge (tgt := 24) S.1 S.2.1 dX7_ones_7 (by decide) (fun c3 => ?_) (fun c3 => ?_)
      · replace h := (if_pos c3).symm.trans h
        obtain ⟨rfl, rfl⟩ := s2 h
        exact K _ _ _ hl hW
      · replace h := (if_neg c3).symm.trans h
        refine lv_iload_n S.1 S.2.1 dX7_ones_10 rfl (lv_at hl 1 rfl) ?_
        refine lv_iload_n S.1 S.2.1 dX7_ones_11 rfl (lv_at hl 0 rfl) ?_
        refine lv_iload_n S.1 S.2.1 dX7_ones_12 rfl (lv_at hl 2 rfl) ?_
        refine lv_ishr S.1 S.2.1 dX7_ones_13 ?_
        refine lv_iconst (v := (1 : Int32)) S.1 S.2.1 dX7_ones_14 (by decide) ?_
        refine lv_iand S.1 S.2.1 dX7_ones_15 ?_
        refine lv_iadd S.1 S.2.1 dX7_ones_16 ?_
        refine lv_istore_n (lv' := [(1, .int (x1 + ((p0 >>> (x2 &&& 31)) &&& (1 : Int32)))), (0, .int p0), (2, .int x2)]) S.1 S.2.1 dX7_ones_17 rfl hl (by decide) rfl (fun ls hl => ?_)
        refine lv_iinc (v := x2 + (1 : Int32)) (lv' := [(2, .int (x2 + (1 : Int32))), (1, .int (x1 + ((p0 >>> (x2 &&& 31)) &&& (1 : Int32)))), (0, .int p0)]) S.1 S.2.1 dX7_ones_18 hl (k := 2) rfl rfl (by decide) rfl (fun ls hl => ?_)
        refine lv_goto (tgt := 4) S.1 S.2.1 dX7_ones_21 (by decide) ?_
        exact ih _ _ _ _ h _ _ _ (lv_sub hl [2, 1, 0] rfl) hW K
  obtain ⟨w1, w2, u4, h⟩ := b2_some h
  refine L4 50000 _ _ _ _ u4 _ _ _ (lv_sub hl [2, 1, 0] rfl) hW (fun H locs ls hl hW => ?_)
  clear L4
  refine lv_iload_n S.1 S.2.1 dX7_ones_24 rfl (lv_at hl 1 rfl) ?_
  obtain rfl := s1 h
  exact fl_pret S.1 S.2.1 hr hlocks hW dX7_ones_25
def fX7_isLetter (p0 : Int32) : Option (Int32) :=
  if p0 = (97 : Int32) then (some (1 : Int32)) else (if p0 = (119 : Int32) then (some (1 : Int32)) else (if p0 = (109 : Int32) then (some (1 : Int32)) else (if p0 = (108 : Int32) then (some (1 : Int32)) else (some (0 : Int32)))))
set_option maxHeartbeats 4000000 in
set_option maxRecDepth 100000 in
theorem kX7_isLetter (l : Launch)  (p0 : Int32) (r : Int32) (h : fX7_isLetter p0 = some r) : Met l yX7_isLetter vX7_isLetter ({ frames := 0, cells := 0, slots := 0, locals := 0 } : Room) (PcP [.int p0]) (QcP r) 0 0 (fun _ => False) := by
  refine Met.ofW (cc := cX7_isLetter) (maxL := 1) (ret := (some .boolean)) (by decide) rfl ?_
  intro p e s m args below meth c s₁ B hml hv
  obtain ⟨rfl, -⟩ := hv
  have hr := B.returns
  have hlocks := B.notSynchronized
  have S : CallFix p m c cX7_isLetter 1 s ([.int p0] : List Value).toArray vX7_isLetter RX7 := ⟨B.exec, B.bytes, hml, findClass_of_methodNamed B.named, atoms_spec (ws := vX7_isLetter) B.pre⟩
  have hq : ∀ w ∈ GW, w.before ([.int p0] : List Value).toArray s = true := fun w h => S.2.2.2.2 w (List.mem_cons_of_mem _ h)
  have hW : va_S (fun _ => False) s.heap s.heap [] := va_S.rf
  have hl := lv_entry ([.int p0]) (n := 1) (Nat.le_of_ble_eq_true rfl)
  rw [lg_entry_eq]
  generalize (lg_sl ([.int p0]) ++ List.replicate (1 - (lg_sl ([.int p0])).length) Slot.unset).toArray = ls at hl ⊢
  have hl : lv_has ls 1 [(0, .int p0)] := hl
  rw [fX7_isLetter] at h
  refine lv_iload_n S.1 S.2.1 dX7_isLetter_0 rfl (lv_at hl 0 rfl) ?_
  refine lv_bipush (v := (97 : Int32)) S.1 S.2.1 dX7_isLetter_1 (by decide) ?_
  refine lv_icmp_eq (tgt := 24) S.1 S.2.1 dX7_isLetter_3 (by decide) (fun c1 => ?_) (fun c1 => ?_)
  · replace h := (if_pos c1).symm.trans h
    refine lv_iconst (v := (1 : Int32)) S.1 S.2.1 dX7_isLetter_24 (by decide) ?_
    refine lv_goto (tgt := 29) S.1 S.2.1 dX7_isLetter_25 (by decide) ?_
    obtain rfl := s1 h
    exact fl_pzret S.1 S.2.1 hr hlocks (Or.inr rfl) hW dX7_isLetter_29
  · replace h := (if_neg c1).symm.trans h
    refine lv_iload_n S.1 S.2.1 dX7_isLetter_6 rfl (lv_at hl 0 rfl) ?_
    refine lv_bipush (v := (119 : Int32)) S.1 S.2.1 dX7_isLetter_7 (by decide) ?_
    refine lv_icmp_eq (tgt := 24) S.1 S.2.1 dX7_isLetter_9 (by decide) (fun c2 => ?_) (fun c2 => ?_)
    · replace h := (if_pos c2).symm.trans h
      refine lv_iconst (v := (1 : Int32)) S.1 S.2.1 dX7_isLetter_24 (by decide) ?_
      refine lv_goto (tgt := 29) S.1 S.2.1 dX7_isLetter_25 (by decide) ?_
      obtain rfl := s1 h
      exact fl_pzret S.1 S.2.1 hr hlocks (Or.inr rfl) hW dX7_isLetter_29
    · replace h := (if_neg c2).symm.trans h
      refine lv_iload_n S.1 S.2.1 dX7_isLetter_12 rfl (lv_at hl 0 rfl) ?_
      refine lv_bipush (v := (109 : Int32)) S.1 S.2.1 dX7_isLetter_13 (by decide) ?_
      refine lv_icmp_eq (tgt := 24) S.1 S.2.1 dX7_isLetter_15 (by decide) (fun c3 => ?_) (fun c3 => ?_)
      · replace h := (if_pos c3).symm.trans h
        refine lv_iconst (v := (1 : Int32)) S.1 S.2.1 dX7_isLetter_24 (by decide) ?_
        refine lv_goto (tgt := 29) S.1 S.2.1 dX7_isLetter_25 (by decide) ?_
        obtain rfl := s1 h
        exact fl_pzret S.1 S.2.1 hr hlocks (Or.inr rfl) hW dX7_isLetter_29
      · replace h := (if_neg c3).symm.trans h
        refine lv_iload_n S.1 S.2.1 dX7_isLetter_18 rfl (lv_at hl 0 rfl) ?_
        refine lv_bipush (v := (108 : Int32)) S.1 S.2.1 dX7_isLetter_19 (by decide) ?_
        refine lv_icmp_ne (tgt := 28) S.1 S.2.1 dX7_isLetter_21 (by decide) (fun c4 => ?_) (fun c4 => ?_)
        · replace h := (if_neg c4).symm.trans h
          refine lv_iconst (v := (0 : Int32)) S.1 S.2.1 dX7_isLetter_28 (by decide) ?_
          obtain rfl := s1 h
          exact fl_pzret S.1 S.2.1 hr hlocks (Or.inl rfl) hW dX7_isLetter_29
        · replace h := (if_pos c4).symm.trans h
          refine lv_iconst (v := (1 : Int32)) S.1 S.2.1 dX7_isLetter_24 (by decide) ?_
          refine lv_goto (tgt := 29) S.1 S.2.1 dX7_isLetter_25 (by decide) ?_
          obtain rfl := s1 h
          exact fl_pzret S.1 S.2.1 hr hlocks (Or.inr rfl) hW dX7_isLetter_29
def fX7_power_L4 (p0 : Int32) (p1 : Int32) : Nat → Int32 → Int32 → Option (Int32 × Int32)
  | 0, _, _ => none
  | n + 1, x2, x3 => if p1 ≤ x3 then (some (x2, x3)) else (fX7_power_L4 p0 p1 n (x2 * p0) (x3 + (1 : Int32)))
def fX7_power (p0 : Int32) (p1 : Int32) : Option (Int32) :=
  b2 (fX7_power_L4 p0 p1 50000 (1 : Int32) (0 : Int32)) (fun (w1 : Int32) (w2 : Int32) => some w1)
set_option maxHeartbeats 4000000 in
set_option maxRecDepth 100000 in
theorem kX7_power (l : Launch)  (p0 : Int32) (p1 : Int32) (r : Int32) (h : fX7_power p0 p1 = some r) : Met l yX7_power vX7_power ({ frames := 0, cells := 0, slots := 0, locals := 0 } : Room) (PcP [.int p0, .int p1]) (QcP r) 0 0 (fun _ => False) := by
  refine Met.ofW (cc := cX7_power) (maxL := 4) (ret := (some .int)) (by decide) rfl ?_
  intro p e s m args below meth c s₁ B hml hv
  obtain ⟨rfl, -⟩ := hv
  have hr := B.returns
  have hlocks := B.notSynchronized
  have S : CallFix p m c cX7_power 4 s ([.int p0, .int p1] : List Value).toArray vX7_power RX7 := ⟨B.exec, B.bytes, hml, findClass_of_methodNamed B.named, atoms_spec (ws := vX7_power) B.pre⟩
  have hq : ∀ w ∈ GW, w.before ([.int p0, .int p1] : List Value).toArray s = true := fun w h => S.2.2.2.2 w (List.mem_cons_of_mem _ h)
  have hW : va_S (fun _ => False) s.heap s.heap [] := va_S.rf
  have hl := lv_entry ([.int p0, .int p1]) (n := 4) (Nat.le_of_ble_eq_true rfl)
  rw [lg_entry_eq]
  generalize (lg_sl ([.int p0, .int p1]) ++ List.replicate (4 - (lg_sl ([.int p0, .int p1])).length) Slot.unset).toArray = ls at hl ⊢
  have hl : lv_has ls 4 [(0, .int p0), (1, .int p1)] := hl
  rw [fX7_power] at h
  refine lv_iconst (v := (1 : Int32)) S.1 S.2.1 dX7_power_0 (by decide) ?_
  refine lv_istore_n (lv' := [(2, .int (1 : Int32)), (0, .int p0), (1, .int p1)]) S.1 S.2.1 dX7_power_1 rfl hl (by decide) rfl (fun ls hl => ?_)
  refine lv_iconst (v := (0 : Int32)) S.1 S.2.1 dX7_power_2 (by decide) ?_
  refine lv_istore_n (lv' := [(3, .int (0 : Int32)), (2, .int (1 : Int32)), (0, .int p0), (1, .int p1)]) S.1 S.2.1 dX7_power_3 rfl hl (by decide) rfl (fun ls hl => ?_)
  have L4 : ∀ (n : Nat) (x2 : Int32) (x3 : Int32) (w1 : Int32) (w2 : Int32), fX7_power_L4 p0 p1 n x2 x3 = some (w1, w2) → ∀ (H : Heap) (locs : List Loc) (ls : Array Slot), lv_has ls 4 [(0, .int p0), (1, .int p1), (2, .int x2), (3, .int x3)] → va_S (fun _ => False) s.heap H locs → (∀ (H : Heap) (locs : List Loc) (ls : Array Slot), lv_has ls 4 [(0, .int p0), (1, .int p1), (2, .int w1), (3, .int w2)] → va_S (fun _ => False) s.heap H locs → W p l e (headSpec vX7_power ({ frames := 0, cells := 0, slots := 0, locals := 0 } : Room)).room s m ([.int p0, .int p1] : List Value).toArray below meth c H locs 0 0 (MQ below (QcP r) ([.int p0, .int p1] : List Value).toArray s 0 0 (fun _ => False)) (F0 m 19 ls [])) → W p l e (headSpec vX7_power ({ frames := 0, cells := 0, slots := 0, locals := 0 } : Room)).room s m ([.int p0, .int p1] : List Value).toArray below meth c H locs 0 0 (MQ below (QcP r) ([.int p0, .int p1] : List Value).toArray s 0 0 (fun _ => False)) (F0 m 4 ls []) := by
    intro n
    induction n with
    | zero => intro x2 x3 w1 w2 h; cases h
    | succ n ih =>
      intro x2 x3 w1 w2 h H locs ls hl hW K
      rw [fX7_power_L4] at h
      refine lv_iload_n S.1 S.2.1 dX7_power_4 rfl (lv_at hl 3 rfl) ?_
      refine lv_iload_n S.1 S.2.1 dX7_power_5 rfl (lv_at hl 1 rfl) ?_
      refine lv_icmp_ge (tgt := 19) S.1 S.2.1 dX7_power_6 (by decide) (fun c3 => ?_) (fun c3 => ?_)
      · replace h := (if_pos c3).symm.trans h
        obtain ⟨rfl, rfl⟩ := s2 h
        exact K _ _ _ hl hW
      · replace h := (if_neg c3).symm.trans h
        refine lv_iload_n S.1 S.2.1 dX7_power_9 rfl (lv_at hl 2 rfl) ?_
        refine lv_iload_n S.1 S.2.1 dX7_power_10 rfl (lv_at hl 0 rfl) ?_
        refine lv_imul S.1 S.2.1 dX7_power_11 ?_
        refine lv_istore_n (lv' := [(2, .int (x2 * p0)), (0, .int p0), (1, .int p1), (3, .int x3)]) S.1 S.2.1 dX7_power_12 rfl hl (by decide) rfl (fun ls hl => ?_)
        refine lv_iinc (v := x3 + (1 : Int32)) (lv' := [(3, .int (x3 + (1 : Int32))), (2, .int (x2 * p0)), (0, .int p0), (1, .int p1)]) S.1 S.2.1 dX7_power_13 hl (k := 3) rfl rfl (by decide) rfl (fun ls hl => ?_)
        refine lv_goto (tgt := 4) S.1 S.2.1 dX7_power_16 (by decide) ?_
        exact ih _ _ _ _ h _ _ _ (lv_sub hl [2, 3, 1, 0] rfl) hW K
  obtain ⟨w1, w2, u4, h⟩ := b2_some h
  refine L4 50000 _ _ _ _ u4 _ _ _ (lv_sub hl [2, 3, 1, 0] rfl) hW (fun H locs ls hl hW => ?_)
  clear L4
  refine lv_iload_n S.1 S.2.1 dX7_power_19 rfl (lv_at hl 2 rfl) ?_
  obtain rfl := s1 h
  exact fl_pret S.1 S.2.1 hr hlocks hW dX7_power_20
def fX7_gcd_L4  : Nat → Int32 → Int32 → Option (Int32 × Int32)
  | 0, _, _ => none
  | n + 1, x2, x3 => if x3 = 0 then (some (x2, x3)) else (nz x3 (fX7_gcd_L4 n x3 (x2 - x2 / x3 * x3)))
def fX7_gcd (p0 : Int32) (p1 : Int32) : Option (Int32) :=
  b2 (fX7_gcd_L4 50000 p0 p1) (fun (w1 : Int32) (w2 : Int32) => some w1)
set_option maxHeartbeats 4000000 in
set_option maxRecDepth 100000 in
theorem kX7_gcd (l : Launch)  (p0 : Int32) (p1 : Int32) (r : Int32) (h : fX7_gcd p0 p1 = some r) : Met l yX7_gcd vX7_gcd ({ frames := 0, cells := 0, slots := 0, locals := 0 } : Room) (PcP [.int p0, .int p1]) (QcP r) 0 0 (fun _ => False) := by
  refine Met.ofW (cc := cX7_gcd) (maxL := 5) (ret := (some .int)) (by decide) rfl ?_
  intro p e s m args below meth c s₁ B hml hv
  obtain ⟨rfl, -⟩ := hv
  have hr := B.returns
  have hlocks := B.notSynchronized
  have S : CallFix p m c cX7_gcd 5 s ([.int p0, .int p1] : List Value).toArray vX7_gcd RX7 := ⟨B.exec, B.bytes, hml, findClass_of_methodNamed B.named, atoms_spec (ws := vX7_gcd) B.pre⟩
  have hq : ∀ w ∈ GW, w.before ([.int p0, .int p1] : List Value).toArray s = true := fun w h => S.2.2.2.2 w (List.mem_cons_of_mem _ h)
  have hW : va_S (fun _ => False) s.heap s.heap [] := va_S.rf
  have hl := lv_entry ([.int p0, .int p1]) (n := 5) (Nat.le_of_ble_eq_true rfl)
  rw [lg_entry_eq]
  generalize (lg_sl ([.int p0, .int p1]) ++ List.replicate (5 - (lg_sl ([.int p0, .int p1])).length) Slot.unset).toArray = ls at hl ⊢
  have hl : lv_has ls 5 [(0, .int p0), (1, .int p1)] := hl
  rw [fX7_gcd] at h
  refine lv_iload_n S.1 S.2.1 dX7_gcd_0 rfl (lv_at hl 0 rfl) ?_
  refine lv_istore_n (lv' := [(2, .int p0), (0, .int p0), (1, .int p1)]) S.1 S.2.1 dX7_gcd_1 rfl hl (by decide) rfl (fun ls hl => ?_)
  refine lv_iload_n S.1 S.2.1 dX7_gcd_2 rfl (lv_at hl 2 rfl) ?_
  refine lv_istore_n (lv' := [(3, .int p1), (2, .int p0), (0, .int p0), (1, .int p1)]) S.1 S.2.1 dX7_gcd_3 rfl hl (by decide) rfl (fun ls hl => ?_)
  have L4 : ∀ (n : Nat) (x2 : Int32) (x3 : Int32) (w1 : Int32) (w2 : Int32), fX7_gcd_L4 n x2 x3 = some (w1, w2) → ∀ (H : Heap) (locs : List Loc) (ls : Array Slot), lv_has ls 5 [(0, .int p0), (1, .int p1), (2, .int x2), (3, .int x3)] → va_S (fun _ => False) s.heap H locs → (∀ (H : Heap) (locs : List Loc) (ls : Array Slot), lv_has ls 5 [(0, .int p0), (1, .int p1), (2, .int w1), (3, .int w2)] → va_S (fun _ => False) s.heap H locs → W p l e (headSpec vX7_gcd ({ frames := 0, cells := 0, slots := 0, locals := 0 } : Room)).room s m ([.int p0, .int p1] : List Value).toArray below meth c H locs 0 0 (MQ below (QcP r) ([.int p0, .int p1] : List Value).toArray s 0 0 (fun _ => False)) (F0 m 21 ls [])) → W p l e (headSpec vX7_gcd ({ frames := 0, cells := 0, slots := 0, locals := 0 } : Room)).room s m ([.int p0, .int p1] : List Value).toArray below meth c H locs 0 0 (MQ below (QcP r) ([.int p0, .int p1] : List Value).toArray s 0 0 (fun _ => False)) (F0 m 4 ls []) := by
    intro n
    induction n with
    | zero => intro x2 x3 w1 w2 h; cases h
    | succ n ih =>
      intro x2 x3 w1 w2 h H locs ls hl hW K
      rw [fX7_gcd_L4] at h
      refine lv_iload_n S.1 S.2.1 dX7_gcd_4 rfl (lv_at hl 3 rfl) ?_
      refine lv_if_eq (tgt := 21) S.1 S.2.1 dX7_gcd_5 (by decide) (fun c3 => ?_) (fun c3 => ?_)
      · replace h := (if_pos c3).symm.trans h
        obtain ⟨rfl, rfl⟩ := s2 h
        exact K _ _ _ hl hW
      · replace h := (if_neg c3).symm.trans h
        refine lv_iload_n S.1 S.2.1 dX7_gcd_8 rfl (lv_at hl 2 rfl) ?_
        refine lv_iload_n S.1 S.2.1 dX7_gcd_9 rfl (lv_at hl 3 rfl) ?_
        obtain ⟨g4, h⟩ := nz_some h
        refine lv_irem S.1 S.2.1 dX7_gcd_10 g4 ?_
        refine lv_istore (lv' := [(4, .int (x2 - x2 / x3 * x3)), (0, .int p0), (1, .int p1), (2, .int x2), (3, .int x3)]) S.1 S.2.1 dX7_gcd_11 hl (by decide) rfl (fun ls hl => ?_)
        refine lv_iload_n S.1 S.2.1 dX7_gcd_13 rfl (lv_at hl 4 rfl) ?_
        refine lv_istore_n (lv' := [(2, .int x3), (4, .int (x2 - x2 / x3 * x3)), (0, .int p0), (1, .int p1), (3, .int x3)]) S.1 S.2.1 dX7_gcd_14 rfl hl (by decide) rfl (fun ls hl => ?_)
        refine lv_iload S.1 S.2.1 dX7_gcd_15 (lv_at hl 1 rfl) ?_
        refine lv_istore_n (lv' := [(3, .int (x2 - x2 / x3 * x3)), (2, .int x3), (4, .int (x2 - x2 / x3 * x3)), (0, .int p0), (1, .int p1)]) S.1 S.2.1 dX7_gcd_17 rfl hl (by decide) rfl (fun ls hl => ?_)
        refine lv_goto (tgt := 4) S.1 S.2.1 dX7_gcd_18 (by decide) ?_
        exact ih _ _ _ _ h _ _ _ (lv_sub hl [3, 4, 1, 0] rfl) hW K
  obtain ⟨w1, w2, u5, h⟩ := b2_some h
  refine L4 50000 _ _ _ _ u5 _ _ _ (lv_sub hl [2, 3, 1, 0] rfl) hW (fun H locs ls hl hW => ?_)
  clear L4
  refine lv_iload_n S.1 S.2.1 dX7_gcd_21 rfl (lv_at hl 2 rfl) ?_
  obtain rfl := s1 h
  exact fl_pret S.1 S.2.1 hr hlocks hW dX7_gcd_22

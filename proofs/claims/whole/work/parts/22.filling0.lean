def fX0_isFree (p1 : Int32) (p2 : Int32) (p3 : Int32) (M : Mm) : Option (Int32) :=
  ix p1 6 (bP (fX6_has (M.1 52 (p1).toNatClampNeg) p2) (fun (v3 : Int32) => if v3 = 0 then (some (0 : Int32)) else (bP (fX6_has p3 p2) (fun (v6 : Int32) => if v6 = 0 then (some (1 : Int32)) else (some (0 : Int32))))))
set_option maxHeartbeats 4000000 in
set_option maxRecDepth 100000 in
theorem kX0_isFree (l : Launch) {D : va_G} {cy : Nat → ClassId} {ad : Nat → Nat} (hJ : Inj ad 80)  (p1 : Int32) (p2 : Int32) (p3 : Int32) (M : Mm) (r : Int32) (h : fX0_isFree p1 p2 p3 M = some r) : Met l yX0_isFree vX0_isFree ({ frames := 2, cells := 0, slots := 0, locals := 41 } : Room) (PcF [.ref (ad 51), .int p1, .int p2, .int p3] D cy ad kdV shC rfC 80 M) (QcI r D cy ad kdV shC rfC 80 M) 0 0 (AV ad 80) := by
  refine Met.ofW (cc := cX0_isFree) (maxL := 4) (ret := (some .boolean)) (by decide) rfl ?_
  intro p e s m args below meth c s₁ B hml hv
  obtain ⟨rfl, hP, hK, hN⟩ := hv
  have hr := B.returns
  have hlocks := B.notSynchronized
  have S : CallFix p m c cX0_isFree 4 s ([.ref (ad 51), .int p1, .int p2, .int p3] : List Value).toArray vX0_isFree RX0 := ⟨B.exec, B.bytes, hml, findClass_of_methodNamed B.named, atoms_spec (ws := vX0_isFree) B.pre⟩
  have hq : ∀ w ∈ GW, w.before ([.ref (ad 51), .int p1, .int p2, .int p3] : List Value).toArray s = true := fun w h => S.2.2.2.2 w (List.mem_cons_of_mem _ h)
  have hA : ∀ k, k < 80 → AV ad 80 (ad k) := fun k hk => ⟨k, hk, rfl⟩
  have hW : WSt D cy ad kdV shC rfC 80 (AV ad 80) M s.heap s.heap [] := ⟨hP, va_S.rf⟩
  clear hP
  have iX0 : ∀ w ∈ wsX00, w ∈ vX0_isFree := fun w h => List.mem_cons_of_mem _ (inX0 w h)
  have hl := lv_entry ([.ref (ad 51), .int p1, .int p2, .int p3]) (n := 4) (Nat.le_of_ble_eq_true rfl)
  rw [lg_entry_eq]
  generalize (lg_sl ([.ref (ad 51), .int p1, .int p2, .int p3]) ++ List.replicate (4 - (lg_sl ([.ref (ad 51), .int p1, .int p2, .int p3])).length) Slot.unset).toArray = ls at hl ⊢
  have hl : lv_has ls 4 [(0, .ref (ad 51)), (1, .int p1), (2, .int p2), (3, .int p3)] := hl
  rw [fX0_isFree] at h
  refine lv_aload_n S.1 S.2.1 dX0_isFree_0 rfl (lv_at hl 0 rfl) ?_
  refine fl_get S hK iX0 rfl lC_51 sC_51 0 (by decide) (hq _ q_4) (fun _ h9 => h9) (fvs_R rfl rfl) hW dX0_isFree_1 ?_
  refine lv_iload_n S.1 S.2.1 dX0_isFree_4 rfl (lv_at hl 1 rfl) ?_
  obtain ⟨g1, h⟩ := ix_some h
  refine fl_iald S hK lC_52 sC_52 g1 hW dX0_isFree_5 ?_
  refine lv_iload_n S.1 S.2.1 dX0_isFree_6 rfl (lv_at hl 2 rfl) ?_
  obtain ⟨v3, u2, h⟩ := bP_some h
  refine fl_doneP (fl_runSN S (kX6_has l (M.1 52 (p1).toNatClampNeg) p2 v3 u2) ⟨va_cnB 2 S.2.2.2.2 (gN q_5) rfl rfl rfl (hN.m 19 rfl) (hq _ q_3) (by decide +kernel) ⟨Nat.le_of_ble_eq_true rfl, Nat.le_of_ble_eq_true rfl⟩, (hq _ q_6), trivial⟩ rfl hl.1 rfl (Nat.le_of_ble_eq_true rfl) dX0_isFree_7 ⟨Nat.zero_le _, Nat.zero_le _⟩) hW (fun H locs hW => ?_)
  refine lv_if_eq (tgt := 25) S.1 S.2.1 dX0_isFree_10 (by decide) (fun c4 => ?_) (fun c4 => ?_)
  · replace h := (if_pos c4).symm.trans h
    refine lv_iconst (v := (0 : Int32)) S.1 S.2.1 dX0_isFree_25 (by decide) ?_
    obtain rfl := s1 h
    exact fl_zret S.1 S.2.1 hr hlocks (Or.inl rfl) hW dX0_isFree_26
  · replace h := (if_neg c4).symm.trans h
    refine lv_iload_n S.1 S.2.1 dX0_isFree_13 rfl (lv_at hl 3 rfl) ?_
    refine lv_iload_n S.1 S.2.1 dX0_isFree_14 rfl (lv_at hl 2 rfl) ?_
    obtain ⟨v6, u5, h⟩ := bP_some h
    refine fl_doneP (fl_runSN S (kX6_has l p3 p2 v6 u5) ⟨va_cnB 2 S.2.2.2.2 (gN q_5) rfl rfl rfl (hN.m 19 rfl) (hq _ q_3) (by decide +kernel) ⟨Nat.le_of_ble_eq_true rfl, Nat.le_of_ble_eq_true rfl⟩, (hq _ q_6), trivial⟩ rfl hl.1 rfl (Nat.le_of_ble_eq_true rfl) dX0_isFree_15 ⟨Nat.zero_le _, Nat.zero_le _⟩) hW (fun H locs hW => ?_)
    refine lv_if_ne (tgt := 25) S.1 S.2.1 dX0_isFree_18 (by decide) (fun c7 => ?_) (fun c7 => ?_)
    · replace h := (if_neg c7).symm.trans h
      refine lv_iconst (v := (0 : Int32)) S.1 S.2.1 dX0_isFree_25 (by decide) ?_
      obtain rfl := s1 h
      exact fl_zret S.1 S.2.1 hr hlocks (Or.inl rfl) hW dX0_isFree_26
    · replace h := (if_pos c7).symm.trans h
      refine lv_iconst (v := (1 : Int32)) S.1 S.2.1 dX0_isFree_21 (by decide) ?_
      refine lv_goto (tgt := 26) S.1 S.2.1 dX0_isFree_22 (by decide) ?_
      obtain rfl := s1 h
      exact fl_zret S.1 S.2.1 hr hlocks (Or.inr rfl) hW dX0_isFree_26
def fX0_mostFrom_L14 (p1 : Int32) (p2 : Int32) (M : Mm) : Nat → Int32 → Int32 → Option (Int32 × Int32)
  | 0, _, _ => none
  | n + 1, x3, x4 => if (M.1 51 3) ≤ x4 then (some (x3, x4)) else (bP (fX0_isFree p1 x4 p2 M) (fun (v8 : Int32) => if v8 = 0 then (fX0_mostFrom_L14 p1 p2 M n x3 (x4 + (1 : Int32))) else (ix (p1 + (1 : Int32)) 7 (bP (fX6_bit x4) (fun (v13 : Int32) => ix (p2 ||| v13) 32 (fX0_mostFrom_L14 p1 p2 M n (if x3 < ((1 : Int32) + (M.1 (54 + (p1 + (1 : Int32)).toNatClampNeg) (p2 ||| v13).toNatClampNeg)) then ((1 : Int32) + (M.1 (54 + (p1 + (1 : Int32)).toNatClampNeg) (p2 ||| v13).toNatClampNeg)) else x3) (x4 + (1 : Int32))))))))
def fX0_mostFrom (p1 : Int32) (p2 : Int32) (M : Mm) : Option (Int32) :=
  ix (p1 + (1 : Int32)) 7 (ix p2 32 (b2 (fX0_mostFrom_L14 p1 p2 M 50000 (M.1 (54 + (p1 + (1 : Int32)).toNatClampNeg) (p2).toNatClampNeg) (0 : Int32)) (fun (w4 : Int32) (w5 : Int32) => some w4)))
set_option maxHeartbeats 4000000 in
set_option maxRecDepth 100000 in
theorem kX0_mostFrom (l : Launch) {D : va_G} {cy : Nat → ClassId} {ad : Nat → Nat} (hJ : Inj ad 80)  (p1 : Int32) (p2 : Int32) (M : Mm) (r : Int32) (h : fX0_mostFrom p1 p2 M = some r) : Met l yX0_mostFrom vX0_mostFrom ({ frames := 3, cells := 0, slots := 0, locals := 64 } : Room) (PcF [.ref (ad 51), .int p1, .int p2] D cy ad kdV shC rfC 80 M) (QcI r D cy ad kdV shC rfC 80 M) 0 0 (AV ad 80) := by
  refine Met.ofW (cc := cX0_mostFrom) (maxL := 5) (ret := (some .int)) (by decide) rfl ?_
  intro p e s m args below meth c s₁ B hml hv
  obtain ⟨rfl, hP, hK, hN⟩ := hv
  have hr := B.returns
  have hlocks := B.notSynchronized
  have S : CallFix p m c cX0_mostFrom 5 s ([.ref (ad 51), .int p1, .int p2] : List Value).toArray vX0_mostFrom RX0 := ⟨B.exec, B.bytes, hml, findClass_of_methodNamed B.named, atoms_spec (ws := vX0_mostFrom) B.pre⟩
  have hq : ∀ w ∈ GW, w.before ([.ref (ad 51), .int p1, .int p2] : List Value).toArray s = true := fun w h => S.2.2.2.2 w (List.mem_cons_of_mem _ h)
  have hA : ∀ k, k < 80 → AV ad 80 (ad k) := fun k hk => ⟨k, hk, rfl⟩
  have hW : WSt D cy ad kdV shC rfC 80 (AV ad 80) M s.heap s.heap [] := ⟨hP, va_S.rf⟩
  clear hP
  have iX0 : ∀ w ∈ wsX00, w ∈ vX0_mostFrom := fun w h => List.mem_cons_of_mem _ (inX0 w h)
  have hl := lv_entry ([.ref (ad 51), .int p1, .int p2]) (n := 5) (Nat.le_of_ble_eq_true rfl)
  rw [lg_entry_eq]
  generalize (lg_sl ([.ref (ad 51), .int p1, .int p2]) ++ List.replicate (5 - (lg_sl ([.ref (ad 51), .int p1, .int p2])).length) Slot.unset).toArray = ls at hl ⊢
  have hl : lv_has ls 5 [(0, .ref (ad 51)), (1, .int p1), (2, .int p2)] := hl
  rw [fX0_mostFrom] at h
  refine lv_aload_n S.1 S.2.1 dX0_mostFrom_0 rfl (lv_at hl 0 rfl) ?_
  refine fl_get S hK iX0 rfl lC_51 sC_51 1 (by decide) (hq _ q_7) (fun _ h9 => h9) (fvs_R rfl rfl) hW dX0_mostFrom_1 ?_
  refine lv_iload_n S.1 S.2.1 dX0_mostFrom_4 rfl (lv_at hl 1 rfl) ?_
  refine lv_iconst (v := (1 : Int32)) S.1 S.2.1 dX0_mostFrom_5 (by decide) ?_
  refine lv_iadd S.1 S.2.1 dX0_mostFrom_6 ?_
  obtain ⟨g1, h⟩ := ix_some h
  obtain ⟨t2l, t2s⟩ := most_ok (vp_lt g1)
  refine fl_gald S hK lC_53 sC_53 g1 (b := 54 + (p1 + (1 : Int32)).toNatClampNeg) rfl hW dX0_mostFrom_7 ?_
  refine lv_iload_n S.1 S.2.1 dX0_mostFrom_8 rfl (lv_at hl 2 rfl) ?_
  obtain ⟨g3, h⟩ := ix_some h
  refine fl_iald S hK t2l t2s g3 hW dX0_mostFrom_9 ?_
  refine lv_istore_n (lv' := [(3, .int (M.1 (54 + (p1 + (1 : Int32)).toNatClampNeg) (p2).toNatClampNeg)), (0, .ref (ad 51)), (1, .int p1), (2, .int p2)]) S.1 S.2.1 dX0_mostFrom_10 rfl hl (by decide) rfl (fun ls hl => ?_)
  refine lv_iconst (v := (0 : Int32)) S.1 S.2.1 dX0_mostFrom_11 (by decide) ?_
  refine lv_istore (lv' := [(4, .int (0 : Int32)), (3, .int (M.1 (54 + (p1 + (1 : Int32)).toNatClampNeg) (p2).toNatClampNeg)), (0, .ref (ad 51)), (1, .int p1), (2, .int p2)]) S.1 S.2.1 dX0_mostFrom_12 hl (by decide) rfl (fun ls hl => ?_)
  have L14 : ∀ (n : Nat) (x3 : Int32) (x4 : Int32) (w4 : Int32) (w5 : Int32), fX0_mostFrom_L14 p1 p2 M n x3 x4 = some (w4, w5) → ∀ (H : Heap) (locs : List Loc) (ls : Array Slot), lv_has ls 5 [(0, .ref (ad 51)), (1, .int p1), (2, .int p2), (3, .int x3), (4, .int x4)] → WSt D cy ad kdV shC rfC 80 (AV ad 80) M s.heap H locs → (∀ (H : Heap) (locs : List Loc) (ls : Array Slot), lv_has ls 5 [(0, .ref (ad 51)), (1, .int p1), (2, .int p2), (3, .int w4), (4, .int w5)] → WSt D cy ad kdV shC rfC 80 (AV ad 80) M s.heap H locs → W p l e (headSpec vX0_mostFrom ({ frames := 3, cells := 0, slots := 0, locals := 64 } : Room)).room s m ([.ref (ad 51), .int p1, .int p2] : List Value).toArray below meth c H locs 0 0 (MQ below (QcI r D cy ad kdV shC rfC 80 M) ([.ref (ad 51), .int p1, .int p2] : List Value).toArray s 0 0 (AV ad 80)) (F0 m 63 ls [])) → W p l e (headSpec vX0_mostFrom ({ frames := 3, cells := 0, slots := 0, locals := 64 } : Room)).room s m ([.ref (ad 51), .int p1, .int p2] : List Value).toArray below meth c H locs 0 0 (MQ below (QcI r D cy ad kdV shC rfC 80 M) ([.ref (ad 51), .int p1, .int p2] : List Value).toArray s 0 0 (AV ad 80)) (F0 m 14 ls []) := by
    intro n
    induction n with
    | zero => intro x3 x4 w4 w5 h; cases h
    | succ n ih =>
      intro x3 x4 w4 w5 h H locs ls hl hW K
      rw [fX0_mostFrom_L14] at h
      refine lv_iload S.1 S.2.1 dX0_mostFrom_14 (lv_at hl 4 rfl) ?_
      refine lv_aload_n S.1 S.2.1 dX0_mostFrom_16 rfl (lv_at hl 0 rfl) ?_
      refine fl_get S hK iX0 rfl lC_51 sC_51 3 (by decide) (hq _ q_8) (fun _ h9 => h9) (fvs_I rfl) hW dX0_mostFrom_17 ?_
      refine lv_icmp_ge (tgt := 63) S.1 S.2.1 dX0_mostFrom_20 (by decide) (fun c6 => ?_) (fun c6 => ?_)
      · replace h := (if_pos c6).symm.trans h
        obtain ⟨rfl, rfl⟩ := s2 h
        exact K _ _ _ hl hW
      · replace h := (if_neg c6).symm.trans h
        refine lv_aload_n S.1 S.2.1 dX0_mostFrom_23 rfl (lv_at hl 0 rfl) ?_
        refine lv_iload_n S.1 S.2.1 dX0_mostFrom_24 rfl (lv_at hl 1 rfl) ?_
        refine lv_iload S.1 S.2.1 dX0_mostFrom_25 (lv_at hl 4 rfl) ?_
        refine lv_iload_n S.1 S.2.1 dX0_mostFrom_27 rfl (lv_at hl 2 rfl) ?_
        obtain ⟨v8, u7, h⟩ := bP_some h
        refine fl_doneI (fl_runV S hK hN (kX0_isFree l hJ p1 x4 p2 M v8 u7) (cwV 3 S.2.2.2.2 (gV q_10 q_11 q_12 q_13 q_9) rfl rfl rfl (by decide +kernel) ⟨Nat.le_of_ble_eq_true rfl, Nat.le_of_ble_eq_true rfl⟩) (ci := 0) rfl lC_51 sC_51 rfl hl.1 rfl (Nat.le_of_ble_eq_true rfl) dX0_mostFrom_28 ⟨Nat.zero_le _, Nat.zero_le _⟩ hW) hA hW.2 (fun H locs hW => ?_)
        refine lv_if_eq (tgt := 57) S.1 S.2.1 dX0_mostFrom_31 (by decide) (fun c9 => ?_) (fun c9 => ?_)
        · replace h := (if_pos c9).symm.trans h
          refine lv_iinc (v := x4 + (1 : Int32)) (lv' := [(4, .int (x4 + (1 : Int32))), (0, .ref (ad 51)), (1, .int p1), (2, .int p2), (3, .int x3)]) S.1 S.2.1 dX0_mostFrom_57 hl (k := 4) rfl rfl (by decide) rfl (fun ls hl => ?_)
          refine lv_goto (tgt := 14) S.1 S.2.1 dX0_mostFrom_60 (by decide) ?_
          exact ih _ _ _ _ h _ _ _ (lv_sub hl [1, 2, 3, 4, 0] rfl) hW K
        · replace h := (if_neg c9).symm.trans h
          refine lv_iload_n S.1 S.2.1 dX0_mostFrom_34 rfl (lv_at hl 3 rfl) ?_
          refine lv_iconst (v := (1 : Int32)) S.1 S.2.1 dX0_mostFrom_35 (by decide) ?_
          refine lv_aload_n S.1 S.2.1 dX0_mostFrom_36 rfl (lv_at hl 0 rfl) ?_
          refine fl_get S hK iX0 rfl lC_51 sC_51 1 (by decide) (hq _ q_7) (fun _ h9 => h9) (fvs_R rfl rfl) hW dX0_mostFrom_37 ?_
          refine lv_iload_n S.1 S.2.1 dX0_mostFrom_40 rfl (lv_at hl 1 rfl) ?_
          refine lv_iconst (v := (1 : Int32)) S.1 S.2.1 dX0_mostFrom_41 (by decide) ?_
          refine lv_iadd S.1 S.2.1 dX0_mostFrom_42 ?_
          obtain ⟨g10, h⟩ := ix_some h
          obtain ⟨t11l, t11s⟩ := most_ok (vp_lt g10)
          refine fl_gald S hK lC_53 sC_53 g10 (b := 54 + (p1 + (1 : Int32)).toNatClampNeg) rfl hW dX0_mostFrom_43 ?_
          refine lv_iload_n S.1 S.2.1 dX0_mostFrom_44 rfl (lv_at hl 2 rfl) ?_
          refine lv_iload S.1 S.2.1 dX0_mostFrom_45 (lv_at hl 4 rfl) ?_
          obtain ⟨v13, u12, h⟩ := bP_some h
          refine fl_doneP (fl_runSN S (kX6_bit l x4 v13 u12) ⟨va_cnB 1 S.2.2.2.2 (gN q_0) rfl rfl rfl (hN.m 18 rfl) (hq _ q_3) (by decide +kernel) ⟨Nat.le_of_ble_eq_true rfl, Nat.le_of_ble_eq_true rfl⟩, (hq _ q_2), trivial⟩ rfl hl.1 rfl (Nat.le_of_ble_eq_true rfl) dX0_mostFrom_47 ⟨Nat.zero_le _, Nat.zero_le _⟩) hW (fun H locs hW => ?_)
          refine lv_ior S.1 S.2.1 dX0_mostFrom_50 ?_
          obtain ⟨g14, h⟩ := ix_some h
          refine fl_iald S hK t11l t11s g14 hW dX0_mostFrom_51 ?_
          refine lv_iadd S.1 S.2.1 dX0_mostFrom_52 ?_
          refine va_mmax S.1 S.2.1 (S.2.2.1.trans hl.1.symm) S.2.2.2.1 (hq _ q_14) (hq _ q_15) (hq _ q_16) (hq _ q_17) (Nat.le_of_ble_eq_true rfl) (Nat.le_of_ble_eq_true rfl) (Nat.zero_le _) (Nat.zero_le _) dX0_mostFrom_53 ?_
          refine lv_istore_n (lv' := [(3, .int (if x3 < ((1 : Int32) + (M.1 (54 + (p1 + (1 : Int32)).toNatClampNeg) (p2 ||| v13).toNatClampNeg)) then ((1 : Int32) + (M.1 (54 + (p1 + (1 : Int32)).toNatClampNeg) (p2 ||| v13).toNatClampNeg)) else x3)), (0, .ref (ad 51)), (1, .int p1), (2, .int p2), (4, .int x4)]) S.1 S.2.1 dX0_mostFrom_56 rfl hl (by decide) rfl (fun ls hl => ?_)
          refine lv_iinc (v := x4 + (1 : Int32)) (lv' := [(4, .int (x4 + (1 : Int32))), (3, .int (if x3 < ((1 : Int32) + (M.1 (54 + (p1 + (1 : Int32)).toNatClampNeg) (p2 ||| v13).toNatClampNeg)) then ((1 : Int32) + (M.1 (54 + (p1 + (1 : Int32)).toNatClampNeg) (p2 ||| v13).toNatClampNeg)) else x3)), (0, .ref (ad 51)), (1, .int p1), (2, .int p2)]) S.1 S.2.1 dX0_mostFrom_57 hl (k := 4) rfl rfl (by decide) rfl (fun ls hl => ?_)
          refine lv_goto (tgt := 14) S.1 S.2.1 dX0_mostFrom_60 (by decide) ?_
          exact ih _ _ _ _ h _ _ _ (lv_sub hl [2, 3, 4, 1, 0] rfl) hW K
  obtain ⟨w4, w5, u15, h⟩ := b2_some h
  refine L14 50000 _ _ _ _ u15 _ _ _ (lv_sub hl [2, 3, 4, 1, 0] rfl) hW (fun H locs ls hl hW => ?_)
  clear L14
  refine lv_iload_n S.1 S.2.1 dX0_mostFrom_63 rfl (lv_at hl 3 rfl) ?_
  obtain rfl := s1 h
  exact fl_iret S.1 S.2.1 hr hlocks hW dX0_mostFrom_64
def fX0_solve_L2  : Nat → Int32 → Mm → Option (Int32 × Mm)
  | 0, _, _ => none
  | n + 1, x1, Ml => bP (fX6_bit (Ml.1 51 3)) (fun (v4 : Int32) => if v4 ≤ x1 then (some (x1, Ml)) else (ix (Ml.1 51 2) 7 (ix x1 32 (lt (wI Ml (54 + (Ml.1 51 2).toNatClampNeg) (x1).toNatClampNeg (0 : Int32)) (fun (M9 : Mm) => fX0_solve_L2 n (x1 + (1 : Int32)) M9)))))
def fX0_solve_L44 (x1 : Int32) : Nat → Int32 → Mm → Option (Int32 × Mm)
  | 0, _, _ => none
  | n + 1, x2_44, Ml_44 => bP (fX6_bit (Ml_44.1 51 3)) (fun (v17 : Int32) => if v17 ≤ x2_44 then (some (x2_44, Ml_44)) else (ix x1 7 (bP (fX0_mostFrom x1 x2_44 Ml_44) (fun (v22 : Int32) => ix x2_44 32 (lt (wI Ml_44 (54 + (x1).toNatClampNeg) (x2_44).toNatClampNeg v22) (fun (M24 : Mm) => fX0_solve_L44 x1 n (x2_44 + (1 : Int32)) M24))))))
def fX0_solve_L38  : Nat → Int32 → Mm → Option (Int32 × Mm)
  | 0, _, _ => none
  | n + 1, x1, Ml => if x1 < 0 then (some (x1, Ml)) else (b2 (fX0_solve_L44 x1 50000 (0 : Int32) Ml) (fun (w14 : Int32) (M15 : Mm) => fX0_solve_L38 n (x1 + (-1 : Int32)) M15))
def fX0_solve (M : Mm) : Option (Int32 × Mm) :=
  b2 (fX0_solve_L2 50000 (0 : Int32) M) (fun (w1 : Int32) (M2 : Mm) => b2 (fX0_solve_L38 50000 ((M2.1 51 2) - (1 : Int32)) M2) (fun (w11 : Int32) (M12 : Mm) => some (M12.1 (54 + ((0 : Int32)).toNatClampNeg) ((0 : Int32)).toNatClampNeg, M12)))
set_option maxHeartbeats 4000000 in
set_option maxRecDepth 100000 in
theorem kX0_solve (l : Launch) {D : va_G} {cy : Nat → ClassId} {ad : Nat → Nat} (hJ : Inj ad 80)   (M : Mm) (r : Int32) (M' : Mm) (h : fX0_solve M = some (r, M')) : Met l yX0_solve vX0_solve ({ frames := 4, cells := 0, slots := 0, locals := 88 } : Room) (PcF [.ref (ad 51)] D cy ad kdV shC rfC 80 M) (QcI r D cy ad kdV shC rfC 80 M') 0 0 (AV ad 80) := by
  refine Met.ofW (cc := cX0_solve) (maxL := 3) (ret := (some .int)) (by decide) rfl ?_
  intro p e s m args below meth c s₁ B hml hv
  obtain ⟨rfl, hP, hK, hN⟩ := hv
  have hr := B.returns
  have hlocks := B.notSynchronized
  have S : CallFix p m c cX0_solve 3 s ([.ref (ad 51)] : List Value).toArray vX0_solve RX0 := ⟨B.exec, B.bytes, hml, findClass_of_methodNamed B.named, atoms_spec (ws := vX0_solve) B.pre⟩
  have hq : ∀ w ∈ GW, w.before ([.ref (ad 51)] : List Value).toArray s = true := fun w h => S.2.2.2.2 w (List.mem_cons_of_mem _ h)
  have hA : ∀ k, k < 80 → AV ad 80 (ad k) := fun k hk => ⟨k, hk, rfl⟩
  have hW : WSt D cy ad kdV shC rfC 80 (AV ad 80) M s.heap s.heap [] := ⟨hP, va_S.rf⟩
  clear hP
  have iX0 : ∀ w ∈ wsX00, w ∈ vX0_solve := fun w h => List.mem_cons_of_mem _ (inX0 w h)
  have hl := lv_entry ([.ref (ad 51)]) (n := 3) (Nat.le_of_ble_eq_true rfl)
  rw [lg_entry_eq]
  generalize (lg_sl ([.ref (ad 51)]) ++ List.replicate (3 - (lg_sl ([.ref (ad 51)])).length) Slot.unset).toArray = ls at hl ⊢
  have hl : lv_has ls 3 [(0, .ref (ad 51))] := hl
  rw [fX0_solve] at h
  refine lv_iconst (v := (0 : Int32)) S.1 S.2.1 dX0_solve_0 (by decide) ?_
  refine lv_istore_n (lv' := [(1, .int (0 : Int32)), (0, .ref (ad 51))]) S.1 S.2.1 dX0_solve_1 rfl hl (by decide) rfl (fun ls hl => ?_)
  have L2 : ∀ (n : Nat) (x1 : Int32) (Ml : Mm) (w1 : Int32) (M2 : Mm), fX0_solve_L2 n x1 Ml = some (w1, M2) → ∀ (H : Heap) (locs : List Loc) (ls : Array Slot), lv_has ls 3 [(0, .ref (ad 51)), (1, .int x1)] → WSt D cy ad kdV shC rfC 80 (AV ad 80) Ml s.heap H locs → (∀ (H : Heap) (locs : List Loc) (ls : Array Slot), lv_has ls 3 [(0, .ref (ad 51)), (1, .int w1)] → WSt D cy ad kdV shC rfC 80 (AV ad 80) M2 s.heap H locs → W p l e (headSpec vX0_solve ({ frames := 4, cells := 0, slots := 0, locals := 88 } : Room)).room s m ([.ref (ad 51)] : List Value).toArray below meth c H locs 0 0 (MQ below (QcI r D cy ad kdV shC rfC 80 M') ([.ref (ad 51)] : List Value).toArray s 0 0 (AV ad 80)) (F0 m 31 ls [])) → W p l e (headSpec vX0_solve ({ frames := 4, cells := 0, slots := 0, locals := 88 } : Room)).room s m ([.ref (ad 51)] : List Value).toArray below meth c H locs 0 0 (MQ below (QcI r D cy ad kdV shC rfC 80 M') ([.ref (ad 51)] : List Value).toArray s 0 0 (AV ad 80)) (F0 m 2 ls []) := by
    intro n
    induction n with
    | zero => intro x1 Ml w1 M2 h; cases h
    | succ n ih =>
      intro x1 Ml w1 M2 h H locs ls hl hW K
      rw [fX0_solve_L2] at h
      refine lv_iload_n S.1 S.2.1 dX0_solve_2 rfl (lv_at hl 1 rfl) ?_
      refine lv_aload_n S.1 S.2.1 dX0_solve_3 rfl (lv_at hl 0 rfl) ?_
      refine fl_get S hK iX0 rfl lC_51 sC_51 3 (by decide) (hq _ q_8) (fun _ h9 => h9) (fvs_I rfl) hW dX0_solve_4 ?_
      obtain ⟨v4, u3, h⟩ := bP_some h
      refine fl_doneP (fl_runSN S (kX6_bit l (Ml.1 51 3) v4 u3) ⟨va_cnB 1 S.2.2.2.2 (gN q_0) rfl rfl rfl (hN.m 18 rfl) (hq _ q_3) (by decide +kernel) ⟨Nat.le_of_ble_eq_true rfl, Nat.le_of_ble_eq_true rfl⟩, (hq _ q_2), trivial⟩ rfl hl.1 rfl (Nat.le_of_ble_eq_true rfl) dX0_solve_7 ⟨Nat.zero_le _, Nat.zero_le _⟩) hW (fun H locs hW => ?_)
      refine lv_icmp_ge (tgt := 31) S.1 S.2.1 dX0_solve_10 (by decide) (fun c5 => ?_) (fun c5 => ?_)
      · replace h := (if_pos c5).symm.trans h
        obtain ⟨rfl, rfl⟩ := s2 h
        exact K _ _ _ hl hW
      · replace h := (if_neg c5).symm.trans h
        refine lv_aload_n S.1 S.2.1 dX0_solve_13 rfl (lv_at hl 0 rfl) ?_
        refine fl_get S hK iX0 rfl lC_51 sC_51 1 (by decide) (hq _ q_7) (fun _ h9 => h9) (fvs_R rfl rfl) hW dX0_solve_14 ?_
        refine lv_aload_n S.1 S.2.1 dX0_solve_17 rfl (lv_at hl 0 rfl) ?_
        refine fl_get S hK iX0 rfl lC_51 sC_51 2 (by decide) (hq _ q_18) (fun _ h9 => h9) (fvs_I rfl) hW dX0_solve_18 ?_
        obtain ⟨g6, h⟩ := ix_some h
        obtain ⟨t7l, t7s⟩ := most_ok (vp_lt g6)
        refine fl_gald S hK lC_53 sC_53 g6 (b := 54 + (Ml.1 51 2).toNatClampNeg) rfl hW dX0_solve_21 ?_
        refine lv_iload_n S.1 S.2.1 dX0_solve_22 rfl (lv_at hl 1 rfl) ?_
        refine lv_iconst (v := (0 : Int32)) S.1 S.2.1 dX0_solve_23 (by decide) ?_
        obtain ⟨g8, h⟩ := ix_some h
        refine fl_iast S hK hJ hA t7l t7s g8 hW dX0_solve_24 (fun H locs hW => ?_)
        obtain ⟨M9, e10, h⟩ := lt_some h
        rw [e10] at hW
        clear e10
        refine lv_iinc (v := x1 + (1 : Int32)) (lv' := [(1, .int (x1 + (1 : Int32))), (0, .ref (ad 51))]) S.1 S.2.1 dX0_solve_25 hl (k := 1) rfl rfl (by decide) rfl (fun ls hl => ?_)
        refine lv_goto (tgt := 2) S.1 S.2.1 dX0_solve_28 (by decide) ?_
        exact ih _ _ _ _ h _ _ _ (lv_sub hl [1, 0] rfl) hW K
  obtain ⟨w1, M2, u29, h⟩ := b2_some h
  refine L2 50000 _ _ _ _ u29 _ _ _ (lv_sub hl [1, 0] rfl) hW (fun H locs ls hl hW => ?_)
  clear L2
  refine lv_aload_n S.1 S.2.1 dX0_solve_31 rfl (lv_at hl 0 rfl) ?_
  refine fl_get S hK iX0 rfl lC_51 sC_51 2 (by decide) (hq _ q_18) (fun _ h9 => h9) (fvs_I rfl) hW dX0_solve_32 ?_
  refine lv_iconst (v := (1 : Int32)) S.1 S.2.1 dX0_solve_35 (by decide) ?_
  refine lv_isub S.1 S.2.1 dX0_solve_36 ?_
  refine lv_istore_n (lv' := [(1, .int ((M2.1 51 2) - (1 : Int32))), (0, .ref (ad 51))]) S.1 S.2.1 dX0_solve_37 rfl hl (by decide) rfl (fun ls hl => ?_)
  have L38 : ∀ (n : Nat) (x1 : Int32) (Ml : Mm) (w11 : Int32) (M12 : Mm), fX0_solve_L38 n x1 Ml = some (w11, M12) → ∀ (H : Heap) (locs : List Loc) (ls : Array Slot), lv_has ls 3 [(0, .ref (ad 51)), (1, .int x1)] → WSt D cy ad kdV shC rfC 80 (AV ad 80) Ml s.heap H locs → (∀ (H : Heap) (locs : List Loc) (ls : Array Slot), lv_has ls 3 [(0, .ref (ad 51)), (1, .int w11)] → WSt D cy ad kdV shC rfC 80 (AV ad 80) M12 s.heap H locs → W p l e (headSpec vX0_solve ({ frames := 4, cells := 0, slots := 0, locals := 88 } : Room)).room s m ([.ref (ad 51)] : List Value).toArray below meth c H locs 0 0 (MQ below (QcI r D cy ad kdV shC rfC 80 M') ([.ref (ad 51)] : List Value).toArray s 0 0 (AV ad 80)) (F0 m 81 ls [])) → W p l e (headSpec vX0_solve ({ frames := 4, cells := 0, slots := 0, locals := 88 } : Room)).room s m ([.ref (ad 51)] : List Value).toArray below meth c H locs 0 0 (MQ below (QcI r D cy ad kdV shC rfC 80 M') ([.ref (ad 51)] : List Value).toArray s 0 0 (AV ad 80)) (F0 m 38 ls []) := by
    intro n
    induction n with
    | zero => intro x1 Ml w11 M12 h; cases h
    | succ n ih =>
      intro x1 Ml w11 M12 h H locs ls hl hW K
      rw [fX0_solve_L38] at h
      refine lv_iload_n S.1 S.2.1 dX0_solve_38 rfl (lv_at hl 1 rfl) ?_
      refine lv_if_lt (tgt := 81) S.1 S.2.1 dX0_solve_39 (by decide) (fun c13 => ?_) (fun c13 => ?_)
      · replace h := (if_pos c13).symm.trans h
        obtain ⟨rfl, rfl⟩ := s2 h
        exact K _ _ _ hl hW
      · replace h := (if_neg c13).symm.trans h
        refine lv_iconst (v := (0 : Int32)) S.1 S.2.1 dX0_solve_42 (by decide) ?_
        refine lv_istore_n (lv' := [(2, .int (0 : Int32)), (0, .ref (ad 51)), (1, .int x1)]) S.1 S.2.1 dX0_solve_43 rfl hl (by decide) rfl (fun ls hl => ?_)
        have L44 : ∀ (n : Nat) (x2_44 : Int32) (Ml_44 : Mm) (w14 : Int32) (M15 : Mm), fX0_solve_L44 x1 n x2_44 Ml_44 = some (w14, M15) → ∀ (H : Heap) (locs : List Loc) (ls : Array Slot), lv_has ls 3 [(0, .ref (ad 51)), (1, .int x1), (2, .int x2_44)] → WSt D cy ad kdV shC rfC 80 (AV ad 80) Ml_44 s.heap H locs → (∀ (H : Heap) (locs : List Loc) (ls : Array Slot), lv_has ls 3 [(0, .ref (ad 51)), (1, .int x1), (2, .int w14)] → WSt D cy ad kdV shC rfC 80 (AV ad 80) M15 s.heap H locs → W p l e (headSpec vX0_solve ({ frames := 4, cells := 0, slots := 0, locals := 88 } : Room)).room s m ([.ref (ad 51)] : List Value).toArray below meth c H locs 0 0 (MQ below (QcI r D cy ad kdV shC rfC 80 M') ([.ref (ad 51)] : List Value).toArray s 0 0 (AV ad 80)) (F0 m 75 ls [])) → W p l e (headSpec vX0_solve ({ frames := 4, cells := 0, slots := 0, locals := 88 } : Room)).room s m ([.ref (ad 51)] : List Value).toArray below meth c H locs 0 0 (MQ below (QcI r D cy ad kdV shC rfC 80 M') ([.ref (ad 51)] : List Value).toArray s 0 0 (AV ad 80)) (F0 m 44 ls []) := by
          intro n
          induction n with
          | zero => intro x2_44 Ml_44 w14 M15 h; cases h
          | succ n ih =>
            intro x2_44 Ml_44 w14 M15 h H locs ls hl hW K
            rw [fX0_solve_L44] at h
            refine lv_iload_n S.1 S.2.1 dX0_solve_44 rfl (lv_at hl 2 rfl) ?_
            refine lv_aload_n S.1 S.2.1 dX0_solve_45 rfl (lv_at hl 0 rfl) ?_
            refine fl_get S hK iX0 rfl lC_51 sC_51 3 (by decide) (hq _ q_8) (fun _ h9 => h9) (fvs_I rfl) hW dX0_solve_46 ?_
            obtain ⟨v17, u16, h⟩ := bP_some h
            refine fl_doneP (fl_runSN S (kX6_bit l (Ml_44.1 51 3) v17 u16) ⟨va_cnB 1 S.2.2.2.2 (gN q_0) rfl rfl rfl (hN.m 18 rfl) (hq _ q_3) (by decide +kernel) ⟨Nat.le_of_ble_eq_true rfl, Nat.le_of_ble_eq_true rfl⟩, (hq _ q_2), trivial⟩ rfl hl.1 rfl (Nat.le_of_ble_eq_true rfl) dX0_solve_49 ⟨Nat.zero_le _, Nat.zero_le _⟩) hW (fun H locs hW => ?_)
            refine lv_icmp_ge (tgt := 75) S.1 S.2.1 dX0_solve_52 (by decide) (fun c18 => ?_) (fun c18 => ?_)
            · replace h := (if_pos c18).symm.trans h
              obtain ⟨rfl, rfl⟩ := s2 h
              exact K _ _ _ hl hW
            · replace h := (if_neg c18).symm.trans h
              refine lv_aload_n S.1 S.2.1 dX0_solve_55 rfl (lv_at hl 0 rfl) ?_
              refine fl_get S hK iX0 rfl lC_51 sC_51 1 (by decide) (hq _ q_7) (fun _ h9 => h9) (fvs_R rfl rfl) hW dX0_solve_56 ?_
              refine lv_iload_n S.1 S.2.1 dX0_solve_59 rfl (lv_at hl 1 rfl) ?_
              obtain ⟨g19, h⟩ := ix_some h
              obtain ⟨t20l, t20s⟩ := most_ok (vp_lt g19)
              refine fl_gald S hK lC_53 sC_53 g19 (b := 54 + (x1).toNatClampNeg) rfl hW dX0_solve_60 ?_
              refine lv_iload_n S.1 S.2.1 dX0_solve_61 rfl (lv_at hl 2 rfl) ?_
              refine lv_aload_n S.1 S.2.1 dX0_solve_62 rfl (lv_at hl 0 rfl) ?_
              refine lv_iload_n S.1 S.2.1 dX0_solve_63 rfl (lv_at hl 1 rfl) ?_
              refine lv_iload_n S.1 S.2.1 dX0_solve_64 rfl (lv_at hl 2 rfl) ?_
              obtain ⟨v22, u21, h⟩ := bP_some h
              refine fl_doneI (fl_runV S hK hN (kX0_mostFrom l hJ x1 x2_44 Ml_44 v22 u21) (cwV 2 S.2.2.2.2 (gV q_20 q_21 q_22 q_13 q_19) rfl rfl rfl (by decide +kernel) ⟨Nat.le_of_ble_eq_true rfl, Nat.le_of_ble_eq_true rfl⟩) (ci := 0) rfl lC_51 sC_51 rfl hl.1 rfl (Nat.le_of_ble_eq_true rfl) dX0_solve_65 ⟨Nat.zero_le _, Nat.zero_le _⟩ hW) hA hW.2 (fun H locs hW => ?_)
              obtain ⟨g23, h⟩ := ix_some h
              refine fl_iast S hK hJ hA t20l t20s g23 hW dX0_solve_68 (fun H locs hW => ?_)
              obtain ⟨M24, e25, h⟩ := lt_some h
              rw [e25] at hW
              clear e25
              refine lv_iinc (v := x2_44 + (1 : Int32)) (lv' := [(2, .int (x2_44 + (1 : Int32))), (0, .ref (ad 51)), (1, .int x1)]) S.1 S.2.1 dX0_solve_69 hl (k := 2) rfl rfl (by decide) rfl (fun ls hl => ?_)
              refine lv_goto (tgt := 44) S.1 S.2.1 dX0_solve_72 (by decide) ?_
              exact ih _ _ _ _ h _ _ _ (lv_sub hl [1, 2, 0] rfl) hW K
        obtain ⟨w14, M15, u26, h⟩ := b2_some h
        refine L44 50000 _ _ _ _ u26 _ _ _ (lv_sub hl [1, 2, 0] rfl) hW (fun H locs ls hl hW => ?_)
        clear L44
        refine lv_iinc (v := x1 + (-1 : Int32)) (lv' := [(1, .int (x1 + (-1 : Int32))), (0, .ref (ad 51)), (2, .int w14)]) S.1 S.2.1 dX0_solve_75 hl (k := 1) rfl rfl (by decide) rfl (fun ls hl => ?_)
        refine lv_goto (tgt := 38) S.1 S.2.1 dX0_solve_78 (by decide) ?_
        exact ih _ _ _ _ h _ _ _ (lv_sub hl [1, 0] rfl) hW K
  obtain ⟨w11, M12, u28, h⟩ := b2_some h
  refine L38 50000 _ _ _ _ u28 _ _ _ (lv_sub hl [1, 0] rfl) hW (fun H locs ls hl hW => ?_)
  clear L38
  refine lv_aload_n S.1 S.2.1 dX0_solve_81 rfl (lv_at hl 0 rfl) ?_
  refine fl_get S hK iX0 rfl lC_51 sC_51 1 (by decide) (hq _ q_7) (fun _ h9 => h9) (fvs_R rfl rfl) hW dX0_solve_82 ?_
  refine lv_iconst (v := (0 : Int32)) S.1 S.2.1 dX0_solve_85 (by decide) ?_
  obtain ⟨t27l, t27s⟩ := most_ok (vp_lt (vp_dec (i := (0 : Int32)) (n := 7) (by decide)))
  refine fl_gald S hK lC_53 sC_53 (vp_dec (i := (0 : Int32)) (n := 7) (by decide)) (b := 54 + ((0 : Int32)).toNatClampNeg) rfl hW dX0_solve_86 ?_
  refine lv_iconst (v := (0 : Int32)) S.1 S.2.1 dX0_solve_87 (by decide) ?_
  refine fl_iald S hK t27l t27s (vp_dec (i := (0 : Int32)) (n := 32) (by decide)) hW dX0_solve_88 ?_
  obtain ⟨rfl, rfl⟩ := s2 h
  exact fl_iret S.1 S.2.1 hr hlocks hW dX0_solve_89
def fX0_firstWork_L2 (p1 : Int32) (p2 : Int32) (M : Mm) : Nat → Int32 → Option ((Int32) ⊕ (Int32))
  | 0, _ => none
  | n + 1, x3 => if (M.1 51 3) ≤ x3 then (some (.inl x3)) else (bP (fX0_isFree p1 x3 p2 M) (fun (v4 : Int32) => if v4 = 0 then (fX0_firstWork_L2 p1 p2 M n (x3 + (1 : Int32))) else (ix (p1 + (1 : Int32)) 7 (bP (fX6_bit x3) (fun (v9 : Int32) => ix (p2 ||| v9) 32 (ix p1 7 (ix p2 32 (if ((1 : Int32) + (M.1 (54 + (p1 + (1 : Int32)).toNatClampNeg) (p2 ||| v9).toNatClampNeg)) = (M.1 (54 + (p1).toNatClampNeg) (p2).toNatClampNeg) then (some (.inr x3)) else (fX0_firstWork_L2 p1 p2 M n (x3 + (1 : Int32)))))))))))
def fX0_firstWork (p1 : Int32) (p2 : Int32) (M : Mm) : Option (Int32) :=
  bS (fX0_firstWork_L2 p1 p2 M 50000 (0 : Int32)) (fun o16 => (fun (w1 : Int32) => some (-9 : Int32)) o16) (fun o16 => some o16)
set_option maxHeartbeats 4000000 in
set_option maxRecDepth 100000 in
theorem kX0_firstWork (l : Launch) {D : va_G} {cy : Nat → ClassId} {ad : Nat → Nat} (hJ : Inj ad 80)  (p1 : Int32) (p2 : Int32) (M : Mm) (r : Int32) (h : fX0_firstWork p1 p2 M = some r) : Met l yX0_firstWork vX0_firstWork ({ frames := 3, cells := 0, slots := 0, locals := 64 } : Room) (PcF [.ref (ad 51), .int p1, .int p2] D cy ad kdV shC rfC 80 M) (QcI r D cy ad kdV shC rfC 80 M) 0 0 (AV ad 80) := by
  refine Met.ofW (cc := cX0_firstWork) (maxL := 4) (ret := (some .int)) (by decide) rfl ?_
  intro p e s m args below meth c s₁ B hml hv
  obtain ⟨rfl, hP, hK, hN⟩ := hv
  have hr := B.returns
  have hlocks := B.notSynchronized
  have S : CallFix p m c cX0_firstWork 4 s ([.ref (ad 51), .int p1, .int p2] : List Value).toArray vX0_firstWork RX0 := ⟨B.exec, B.bytes, hml, findClass_of_methodNamed B.named, atoms_spec (ws := vX0_firstWork) B.pre⟩
  have hq : ∀ w ∈ GW, w.before ([.ref (ad 51), .int p1, .int p2] : List Value).toArray s = true := fun w h => S.2.2.2.2 w (List.mem_cons_of_mem _ h)
  have hA : ∀ k, k < 80 → AV ad 80 (ad k) := fun k hk => ⟨k, hk, rfl⟩
  have hW : WSt D cy ad kdV shC rfC 80 (AV ad 80) M s.heap s.heap [] := ⟨hP, va_S.rf⟩
  clear hP
  have iX0 : ∀ w ∈ wsX00, w ∈ vX0_firstWork := fun w h => List.mem_cons_of_mem _ (inX0 w h)
  have hl := lv_entry ([.ref (ad 51), .int p1, .int p2]) (n := 4) (Nat.le_of_ble_eq_true rfl)
  rw [lg_entry_eq]
  generalize (lg_sl ([.ref (ad 51), .int p1, .int p2]) ++ List.replicate (4 - (lg_sl ([.ref (ad 51), .int p1, .int p2])).length) Slot.unset).toArray = ls at hl ⊢
  have hl : lv_has ls 4 [(0, .ref (ad 51)), (1, .int p1), (2, .int p2)] := hl
  rw [fX0_firstWork] at h
  refine lv_iconst (v := (0 : Int32)) S.1 S.2.1 dX0_firstWork_0 (by decide) ?_
  refine lv_istore_n (lv' := [(3, .int (0 : Int32)), (0, .ref (ad 51)), (1, .int p1), (2, .int p2)]) S.1 S.2.1 dX0_firstWork_1 rfl hl (by decide) rfl (fun ls hl => ?_)
  have L2 : ∀ (n : Nat) (x3 : Int32) (o : (Int32) ⊕ (Int32)), fX0_firstWork_L2 p1 p2 M n x3 = some o → ∀ (H : Heap) (locs : List Loc) (ls : Array Slot), lv_has ls 4 [(0, .ref (ad 51)), (1, .int p1), (2, .int p2), (3, .int x3)] → WSt D cy ad kdV shC rfC 80 (AV ad 80) M s.heap H locs → (∀ (w1 : Int32), o = .inl w1 → ∀ (H : Heap) (locs : List Loc) (ls : Array Slot), lv_has ls 4 [(0, .ref (ad 51)), (1, .int p1), (2, .int p2), (3, .int w1)] → WSt D cy ad kdV shC rfC 80 (AV ad 80) M s.heap H locs → W p l e (headSpec vX0_firstWork ({ frames := 3, cells := 0, slots := 0, locals := 64 } : Room)).room s m ([.ref (ad 51), .int p1, .int p2] : List Value).toArray below meth c H locs 0 0 (MQ below (QcI r D cy ad kdV shC rfC 80 M) ([.ref (ad 51), .int p1, .int p2] : List Value).toArray s 0 0 (AV ad 80)) (F0 m 56 ls [])) → (∀ (rr : Int32), o = .inr rr → ∀ (H : Heap) (locs : List Loc) (ls : Array Slot) (pc : Nat), WSt D cy ad kdV shC rfC 80 (AV ad 80) M s.heap H locs → decode cX0_firstWork pc = .ok (.ireturn, 1) → W p l e (headSpec vX0_firstWork ({ frames := 3, cells := 0, slots := 0, locals := 64 } : Room)).room s m ([.ref (ad 51), .int p1, .int p2] : List Value).toArray below meth c H locs 0 0 (MQ below (QcI r D cy ad kdV shC rfC 80 M) ([.ref (ad 51), .int p1, .int p2] : List Value).toArray s 0 0 (AV ad 80)) (F0 m pc ls [.int rr])) → W p l e (headSpec vX0_firstWork ({ frames := 3, cells := 0, slots := 0, locals := 64 } : Room)).room s m ([.ref (ad 51), .int p1, .int p2] : List Value).toArray below meth c H locs 0 0 (MQ below (QcI r D cy ad kdV shC rfC 80 M) ([.ref (ad 51), .int p1, .int p2] : List Value).toArray s 0 0 (AV ad 80)) (F0 m 2 ls []) := by
    intro n
    induction n with
    | zero => intro x3 o h; cases h
    | succ n ih =>
      intro x3 o h H locs ls hl hW K K2
      rw [fX0_firstWork_L2] at h
      refine lv_iload_n S.1 S.2.1 dX0_firstWork_2 rfl (lv_at hl 3 rfl) ?_
      refine lv_aload_n S.1 S.2.1 dX0_firstWork_3 rfl (lv_at hl 0 rfl) ?_
      refine fl_get S hK iX0 rfl lC_51 sC_51 3 (by decide) (hq _ q_8) (fun _ h9 => h9) (fvs_I rfl) hW dX0_firstWork_4 ?_
      refine lv_icmp_ge (tgt := 56) S.1 S.2.1 dX0_firstWork_7 (by decide) (fun c2 => ?_) (fun c2 => ?_)
      · replace h := (if_pos c2).symm.trans h
        exact K _ (Option.some.inj h).symm _ _ _ hl hW
      · replace h := (if_neg c2).symm.trans h
        refine lv_aload_n S.1 S.2.1 dX0_firstWork_10 rfl (lv_at hl 0 rfl) ?_
        refine lv_iload_n S.1 S.2.1 dX0_firstWork_11 rfl (lv_at hl 1 rfl) ?_
        refine lv_iload_n S.1 S.2.1 dX0_firstWork_12 rfl (lv_at hl 3 rfl) ?_
        refine lv_iload_n S.1 S.2.1 dX0_firstWork_13 rfl (lv_at hl 2 rfl) ?_
        obtain ⟨v4, u3, h⟩ := bP_some h
        refine fl_doneI (fl_runV S hK hN (kX0_isFree l hJ p1 x3 p2 M v4 u3) (cwV 3 S.2.2.2.2 (gV q_10 q_11 q_12 q_13 q_9) rfl rfl rfl (by decide +kernel) ⟨Nat.le_of_ble_eq_true rfl, Nat.le_of_ble_eq_true rfl⟩) (ci := 0) rfl lC_51 sC_51 rfl hl.1 rfl (Nat.le_of_ble_eq_true rfl) dX0_firstWork_14 ⟨Nat.zero_le _, Nat.zero_le _⟩ hW) hA hW.2 (fun H locs hW => ?_)
        refine lv_if_eq (tgt := 50) S.1 S.2.1 dX0_firstWork_17 (by decide) (fun c5 => ?_) (fun c5 => ?_)
        · replace h := (if_pos c5).symm.trans h
          refine lv_iinc (v := x3 + (1 : Int32)) (lv' := [(3, .int (x3 + (1 : Int32))), (0, .ref (ad 51)), (1, .int p1), (2, .int p2)]) S.1 S.2.1 dX0_firstWork_50 hl (k := 3) rfl rfl (by decide) rfl (fun ls hl => ?_)
          refine lv_goto (tgt := 2) S.1 S.2.1 dX0_firstWork_53 (by decide) ?_
          exact ih _ _ h _ _ _ (lv_sub hl [1, 2, 3, 0] rfl) hW K K2
        · replace h := (if_neg c5).symm.trans h
          refine lv_iconst (v := (1 : Int32)) S.1 S.2.1 dX0_firstWork_20 (by decide) ?_
          refine lv_aload_n S.1 S.2.1 dX0_firstWork_21 rfl (lv_at hl 0 rfl) ?_
          refine fl_get S hK iX0 rfl lC_51 sC_51 1 (by decide) (hq _ q_7) (fun _ h9 => h9) (fvs_R rfl rfl) hW dX0_firstWork_22 ?_
          refine lv_iload_n S.1 S.2.1 dX0_firstWork_25 rfl (lv_at hl 1 rfl) ?_
          refine lv_iconst (v := (1 : Int32)) S.1 S.2.1 dX0_firstWork_26 (by decide) ?_
          refine lv_iadd S.1 S.2.1 dX0_firstWork_27 ?_
          obtain ⟨g6, h⟩ := ix_some h
          obtain ⟨t7l, t7s⟩ := most_ok (vp_lt g6)
          refine fl_gald S hK lC_53 sC_53 g6 (b := 54 + (p1 + (1 : Int32)).toNatClampNeg) rfl hW dX0_firstWork_28 ?_
          refine lv_iload_n S.1 S.2.1 dX0_firstWork_29 rfl (lv_at hl 2 rfl) ?_
          refine lv_iload_n S.1 S.2.1 dX0_firstWork_30 rfl (lv_at hl 3 rfl) ?_
          obtain ⟨v9, u8, h⟩ := bP_some h
          refine fl_doneP (fl_runSN S (kX6_bit l x3 v9 u8) ⟨va_cnB 1 S.2.2.2.2 (gN q_0) rfl rfl rfl (hN.m 18 rfl) (hq _ q_3) (by decide +kernel) ⟨Nat.le_of_ble_eq_true rfl, Nat.le_of_ble_eq_true rfl⟩, (hq _ q_2), trivial⟩ rfl hl.1 rfl (Nat.le_of_ble_eq_true rfl) dX0_firstWork_31 ⟨Nat.zero_le _, Nat.zero_le _⟩) hW (fun H locs hW => ?_)
          refine lv_ior S.1 S.2.1 dX0_firstWork_34 ?_
          obtain ⟨g10, h⟩ := ix_some h
          refine fl_iald S hK t7l t7s g10 hW dX0_firstWork_35 ?_
          refine lv_iadd S.1 S.2.1 dX0_firstWork_36 ?_
          refine lv_aload_n S.1 S.2.1 dX0_firstWork_37 rfl (lv_at hl 0 rfl) ?_
          refine fl_get S hK iX0 rfl lC_51 sC_51 1 (by decide) (hq _ q_7) (fun _ h9 => h9) (fvs_R rfl rfl) hW dX0_firstWork_38 ?_
          refine lv_iload_n S.1 S.2.1 dX0_firstWork_41 rfl (lv_at hl 1 rfl) ?_
          obtain ⟨g11, h⟩ := ix_some h
          obtain ⟨t12l, t12s⟩ := most_ok (vp_lt g11)
          refine fl_gald S hK lC_53 sC_53 g11 (b := 54 + (p1).toNatClampNeg) rfl hW dX0_firstWork_42 ?_
          refine lv_iload_n S.1 S.2.1 dX0_firstWork_43 rfl (lv_at hl 2 rfl) ?_
          obtain ⟨g13, h⟩ := ix_some h
          refine fl_iald S hK t12l t12s g13 hW dX0_firstWork_44 ?_
          refine lv_icmp_ne (tgt := 50) S.1 S.2.1 dX0_firstWork_45 (by decide) (fun c14 => ?_) (fun c14 => ?_)
          · replace h := (if_neg c14).symm.trans h
            refine lv_iinc (v := x3 + (1 : Int32)) (lv' := [(3, .int (x3 + (1 : Int32))), (0, .ref (ad 51)), (1, .int p1), (2, .int p2)]) S.1 S.2.1 dX0_firstWork_50 hl (k := 3) rfl rfl (by decide) rfl (fun ls hl => ?_)
            refine lv_goto (tgt := 2) S.1 S.2.1 dX0_firstWork_53 (by decide) ?_
            exact ih _ _ h _ _ _ (lv_sub hl [1, 2, 3, 0] rfl) hW K K2
          · replace h := (if_pos c14).symm.trans h
            refine lv_iload_n S.1 S.2.1 dX0_firstWork_48 rfl (lv_at hl 3 rfl) ?_
            exact K2 _ (Option.some.inj h).symm _ _ _ _ hW dX0_firstWork_49
  rcases bS_some h with ⟨o16, u15, h⟩ | ⟨o16, u15, h⟩
  · obtain ⟨w1, rfl⟩ : ∃ z, z = o16 := ⟨_, rfl⟩
    refine L2 50000 _ _ u15 _ _ _ (lv_sub hl [1, 2, 3, 0] rfl) hW (fun w1z e H locs ls hl hW => ?_) (fun rr e => by cases e)
    cases e
    refine lv_bipush (v := (-9 : Int32)) S.1 S.2.1 dX0_firstWork_56 (by decide) ?_
    obtain rfl := s1 h
    exact fl_iret S.1 S.2.1 hr hlocks hW dX0_firstWork_58
  · refine L2 50000 _ _ u15 _ _ _ (lv_sub hl [1, 2, 3, 0] rfl) hW (fun _ e => by cases e) (fun rr e H locs ls pc hW hd => ?_)
    cases e
    obtain rfl := s1 h
    exact fl_iret S.1 S.2.1 hr hlocks hW hd
def fX0_workOf_L8 (p1 : Int32) (M : Mm) : Nat → Int32 → Int32 → Int32 → Option (Int32 × Int32 × Int32)
  | 0, _, _, _ => none
  | n + 1, x2, x3, x4 => if p1 < x4 then (some (x2, x3, x4)) else (bP (fX0_firstWork x4 x2 M) (fun (v6 : Int32) => if v6 = (-9 : Int32) then (fX0_workOf_L8 p1 M n x2 v6 (x4 + (1 : Int32))) else (bP (fX6_bit v6) (fun (v9 : Int32) => fX0_workOf_L8 p1 M n (x2 ||| v9) v6 (x4 + (1 : Int32))))))
def fX0_workOf (p1 : Int32) (M : Mm) : Option (Int32) :=
  b3 (fX0_workOf_L8 p1 M 50000 (0 : Int32) (-9 : Int32) (0 : Int32)) (fun (w1 : Int32) (w2 : Int32) (w3 : Int32) => some w2)
set_option maxHeartbeats 4000000 in
set_option maxRecDepth 100000 in
theorem kX0_workOf (l : Launch) {D : va_G} {cy : Nat → ClassId} {ad : Nat → Nat} (hJ : Inj ad 80)  (p1 : Int32) (M : Mm) (r : Int32) (h : fX0_workOf p1 M = some r) : Met l yX0_workOf vX0_workOf ({ frames := 4, cells := 0, slots := 0, locals := 87 } : Room) (PcF [.ref (ad 51), .int p1] D cy ad kdV shC rfC 80 M) (QcI r D cy ad kdV shC rfC 80 M) 0 0 (AV ad 80) := by
  refine Met.ofW (cc := cX0_workOf) (maxL := 5) (ret := (some .int)) (by decide) rfl ?_
  intro p e s m args below meth c s₁ B hml hv
  obtain ⟨rfl, hP, hK, hN⟩ := hv
  have hr := B.returns
  have hlocks := B.notSynchronized
  have S : CallFix p m c cX0_workOf 5 s ([.ref (ad 51), .int p1] : List Value).toArray vX0_workOf RX0 := ⟨B.exec, B.bytes, hml, findClass_of_methodNamed B.named, atoms_spec (ws := vX0_workOf) B.pre⟩
  have hq : ∀ w ∈ GW, w.before ([.ref (ad 51), .int p1] : List Value).toArray s = true := fun w h => S.2.2.2.2 w (List.mem_cons_of_mem _ h)
  have hA : ∀ k, k < 80 → AV ad 80 (ad k) := fun k hk => ⟨k, hk, rfl⟩
  have hW : WSt D cy ad kdV shC rfC 80 (AV ad 80) M s.heap s.heap [] := ⟨hP, va_S.rf⟩
  clear hP
  have hl := lv_entry ([.ref (ad 51), .int p1]) (n := 5) (Nat.le_of_ble_eq_true rfl)
  rw [lg_entry_eq]
  generalize (lg_sl ([.ref (ad 51), .int p1]) ++ List.replicate (5 - (lg_sl ([.ref (ad 51), .int p1])).length) Slot.unset).toArray = ls at hl ⊢
  have hl : lv_has ls 5 [(0, .ref (ad 51)), (1, .int p1)] := hl
  rw [fX0_workOf] at h
  refine lv_iconst (v := (0 : Int32)) S.1 S.2.1 dX0_workOf_0 (by decide) ?_
  refine lv_istore_n (lv' := [(2, .int (0 : Int32)), (0, .ref (ad 51)), (1, .int p1)]) S.1 S.2.1 dX0_workOf_1 rfl hl (by decide) rfl (fun ls hl => ?_)
  refine lv_bipush (v := (-9 : Int32)) S.1 S.2.1 dX0_workOf_2 (by decide) ?_
  refine lv_istore_n (lv' := [(3, .int (-9 : Int32)), (2, .int (0 : Int32)), (0, .ref (ad 51)), (1, .int p1)]) S.1 S.2.1 dX0_workOf_4 rfl hl (by decide) rfl (fun ls hl => ?_)
  refine lv_iconst (v := (0 : Int32)) S.1 S.2.1 dX0_workOf_5 (by decide) ?_
  refine lv_istore (lv' := [(4, .int (0 : Int32)), (3, .int (-9 : Int32)), (2, .int (0 : Int32)), (0, .ref (ad 51)), (1, .int p1)]) S.1 S.2.1 dX0_workOf_6 hl (by decide) rfl (fun ls hl => ?_)
  have L8 : ∀ (n : Nat) (x2 : Int32) (x3 : Int32) (x4 : Int32) (w1 : Int32) (w2 : Int32) (w3 : Int32), fX0_workOf_L8 p1 M n x2 x3 x4 = some (w1, w2, w3) → ∀ (H : Heap) (locs : List Loc) (ls : Array Slot), lv_has ls 5 [(0, .ref (ad 51)), (1, .int p1), (2, .int x2), (3, .int x3), (4, .int x4)] → WSt D cy ad kdV shC rfC 80 (AV ad 80) M s.heap H locs → (∀ (H : Heap) (locs : List Loc) (ls : Array Slot), lv_has ls 5 [(0, .ref (ad 51)), (1, .int p1), (2, .int w1), (3, .int w2), (4, .int w3)] → WSt D cy ad kdV shC rfC 80 (AV ad 80) M s.heap H locs → W p l e (headSpec vX0_workOf ({ frames := 4, cells := 0, slots := 0, locals := 87 } : Room)).room s m ([.ref (ad 51), .int p1] : List Value).toArray below meth c H locs 0 0 (MQ below (QcI r D cy ad kdV shC rfC 80 M) ([.ref (ad 51), .int p1] : List Value).toArray s 0 0 (AV ad 80)) (F0 m 41 ls [])) → W p l e (headSpec vX0_workOf ({ frames := 4, cells := 0, slots := 0, locals := 87 } : Room)).room s m ([.ref (ad 51), .int p1] : List Value).toArray below meth c H locs 0 0 (MQ below (QcI r D cy ad kdV shC rfC 80 M) ([.ref (ad 51), .int p1] : List Value).toArray s 0 0 (AV ad 80)) (F0 m 8 ls []) := by
    intro n
    induction n with
    | zero => intro x2 x3 x4 w1 w2 w3 h; cases h
    | succ n ih =>
      intro x2 x3 x4 w1 w2 w3 h H locs ls hl hW K
      rw [fX0_workOf_L8] at h
      refine lv_iload S.1 S.2.1 dX0_workOf_8 (lv_at hl 4 rfl) ?_
      refine lv_iload_n S.1 S.2.1 dX0_workOf_10 rfl (lv_at hl 1 rfl) ?_
      refine lv_icmp_gt (tgt := 41) S.1 S.2.1 dX0_workOf_11 (by decide) (fun c4 => ?_) (fun c4 => ?_)
      · replace h := (if_pos c4).symm.trans h
        obtain ⟨rfl, rfl, rfl⟩ := s3 h
        exact K _ _ _ hl hW
      · replace h := (if_neg c4).symm.trans h
        refine lv_aload_n S.1 S.2.1 dX0_workOf_14 rfl (lv_at hl 0 rfl) ?_
        refine lv_iload S.1 S.2.1 dX0_workOf_15 (lv_at hl 4 rfl) ?_
        refine lv_iload_n S.1 S.2.1 dX0_workOf_17 rfl (lv_at hl 2 rfl) ?_
        obtain ⟨v6, u5, h⟩ := bP_some h
        refine fl_doneI (fl_runV S hK hN (kX0_firstWork l hJ x4 x2 M v6 u5) (cwV 2 S.2.2.2.2 (gV q_24 q_25 q_26 q_13 q_23) rfl rfl rfl (by decide +kernel) ⟨Nat.le_of_ble_eq_true rfl, Nat.le_of_ble_eq_true rfl⟩) (ci := 0) rfl lC_51 sC_51 rfl hl.1 rfl (Nat.le_of_ble_eq_true rfl) dX0_workOf_18 ⟨Nat.zero_le _, Nat.zero_le _⟩ hW) hA hW.2 (fun H locs hW => ?_)
        refine lv_istore_n (lv' := [(3, .int v6), (0, .ref (ad 51)), (1, .int p1), (2, .int x2), (4, .int x4)]) S.1 S.2.1 dX0_workOf_21 rfl hl (by decide) rfl (fun ls hl => ?_)
        refine lv_iload_n S.1 S.2.1 dX0_workOf_22 rfl (lv_at hl 0 rfl) ?_
        refine lv_bipush (v := (-9 : Int32)) S.1 S.2.1 dX0_workOf_23 (by decide) ?_
        refine lv_icmp_eq (tgt := 35) S.1 S.2.1 dX0_workOf_25 (by decide) (fun c7 => ?_) (fun c7 => ?_)
        · replace h := (if_pos c7).symm.trans h
          refine lv_iinc (v := x4 + (1 : Int32)) (lv' := [(4, .int (x4 + (1 : Int32))), (3, .int v6), (0, .ref (ad 51)), (1, .int p1), (2, .int x2)]) S.1 S.2.1 dX0_workOf_35 hl (k := 4) rfl rfl (by decide) rfl (fun ls hl => ?_)
          refine lv_goto (tgt := 8) S.1 S.2.1 dX0_workOf_38 (by decide) ?_
          exact ih _ _ _ _ _ _ h _ _ _ (lv_sub hl [2, 3, 4, 1, 0] rfl) hW K
        · replace h := (if_neg c7).symm.trans h
          refine lv_iload_n S.1 S.2.1 dX0_workOf_28 rfl (lv_at hl 3 rfl) ?_
          refine lv_iload_n S.1 S.2.1 dX0_workOf_29 rfl (lv_at hl 0 rfl) ?_
          obtain ⟨v9, u8, h⟩ := bP_some h
          refine fl_doneP (fl_runSN S (kX6_bit l v6 v9 u8) ⟨va_cnB 1 S.2.2.2.2 (gN q_0) rfl rfl rfl (hN.m 18 rfl) (hq _ q_3) (by decide +kernel) ⟨Nat.le_of_ble_eq_true rfl, Nat.le_of_ble_eq_true rfl⟩, (hq _ q_2), trivial⟩ rfl hl.1 rfl (Nat.le_of_ble_eq_true rfl) dX0_workOf_30 ⟨Nat.zero_le _, Nat.zero_le _⟩) hW (fun H locs hW => ?_)
          refine lv_ior S.1 S.2.1 dX0_workOf_33 ?_
          refine lv_istore_n (lv' := [(2, .int (x2 ||| v9)), (3, .int v6), (0, .ref (ad 51)), (1, .int p1), (4, .int x4)]) S.1 S.2.1 dX0_workOf_34 rfl hl (by decide) rfl (fun ls hl => ?_)
          refine lv_iinc (v := x4 + (1 : Int32)) (lv' := [(4, .int (x4 + (1 : Int32))), (2, .int (x2 ||| v9)), (3, .int v6), (0, .ref (ad 51)), (1, .int p1)]) S.1 S.2.1 dX0_workOf_35 hl (k := 4) rfl rfl (by decide) rfl (fun ls hl => ?_)
          refine lv_goto (tgt := 8) S.1 S.2.1 dX0_workOf_38 (by decide) ?_
          exact ih _ _ _ _ _ _ h _ _ _ (lv_sub hl [3, 4, 1, 2, 0] rfl) hW K
  obtain ⟨w1, w2, w3, u10, h⟩ := b3_some h
  refine L8 50000 _ _ _ _ _ _ u10 _ _ _ (lv_sub hl [3, 4, 2, 1, 0] rfl) hW (fun H locs ls hl hW => ?_)
  clear L8
  refine lv_iload_n S.1 S.2.1 dX0_workOf_41 rfl (lv_at hl 3 rfl) ?_
  obtain rfl := s1 h
  exact fl_iret S.1 S.2.1 hr hlocks hW dX0_workOf_42

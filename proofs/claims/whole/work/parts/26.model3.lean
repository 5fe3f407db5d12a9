def fX7_elder_L33 (M1 : Mm) (x2 : Int32) : Nat → Int32 → Int32 → Option (Int32 × Int32)
  | 0, _, _ => none
  | n + 1, x3_33, x4_33 => if (M1.1 2 ((1 : Int32)).toNatClampNeg) ≤ x4_33 then (some (x3_33, x4_33)) else (ix ((15 : Int32) + x4_33) 21 (ix ((15 : Int32) + x2) 21 (if (M1.1 6 ((15 : Int32) + x2).toNatClampNeg) < (M1.1 6 ((15 : Int32) + x4_33).toNatClampNeg) then (bP (fX7_has (M1.1 6 ((14 : Int32)).toNatClampNeg) x4_33) (fun (v15 : Int32) => if v15 = 0 then (fX7_elder_L33 M1 x2 n (x3_33 + (0 : Int32)) (x4_33 + (1 : Int32))) else (if (1 : Int32) = 0 then (fX7_elder_L33 M1 x2 n (x3_33 + (0 : Int32)) (x4_33 + (1 : Int32))) else (fX7_elder_L33 M1 x2 n (x3_33 + (1 : Int32)) (x4_33 + (1 : Int32)))))) else (ix ((15 : Int32) + x4_33) 21 (ix ((15 : Int32) + x2) 21 (if (M1.1 6 ((15 : Int32) + x4_33).toNatClampNeg) = (M1.1 6 ((15 : Int32) + x2).toNatClampNeg) then (if x2 ≤ x4_33 then (bP (fX7_has (M1.1 6 ((14 : Int32)).toNatClampNeg) x4_33) (fun (v23 : Int32) => if v23 = 0 then (fX7_elder_L33 M1 x2 n (x3_33 + (0 : Int32)) (x4_33 + (1 : Int32))) else (if (0 : Int32) = 0 then (fX7_elder_L33 M1 x2 n (x3_33 + (0 : Int32)) (x4_33 + (1 : Int32))) else (fX7_elder_L33 M1 x2 n (x3_33 + (1 : Int32)) (x4_33 + (1 : Int32)))))) else (bP (fX7_has (M1.1 6 ((14 : Int32)).toNatClampNeg) x4_33) (fun (v27 : Int32) => if v27 = 0 then (fX7_elder_L33 M1 x2 n (x3_33 + (0 : Int32)) (x4_33 + (1 : Int32))) else (if (1 : Int32) = 0 then (fX7_elder_L33 M1 x2 n (x3_33 + (0 : Int32)) (x4_33 + (1 : Int32))) else (fX7_elder_L33 M1 x2 n (x3_33 + (1 : Int32)) (x4_33 + (1 : Int32))))))) else (bP (fX7_has (M1.1 6 ((14 : Int32)).toNatClampNeg) x4_33) (fun (v31 : Int32) => if v31 = 0 then (fX7_elder_L33 M1 x2 n (x3_33 + (0 : Int32)) (x4_33 + (1 : Int32))) else (if (0 : Int32) = 0 then (fX7_elder_L33 M1 x2 n (x3_33 + (0 : Int32)) (x4_33 + (1 : Int32))) else (fX7_elder_L33 M1 x2 n (x3_33 + (1 : Int32)) (x4_33 + (1 : Int32))))))))))))
def fX7_elder_L18 (p1 : Int32) (M1 : Mm) : Nat → Int32 → Option ((Int32) ⊕ (Int32 × Mm))
  | 0, _ => none
  | n + 1, x2 => if (M1.1 2 ((1 : Int32)).toNatClampNeg) ≤ x2 then (some (.inl x2)) else (b2 (fX7_elder_L33 M1 x2 50000 (0 : Int32) (0 : Int32)) (fun (w8 : Int32) (w9 : Int32) => bP (fX7_has (M1.1 6 ((14 : Int32)).toNatClampNeg) x2) (fun (v35 : Int32) => if v35 = 0 then (fX7_elder_L18 p1 M1 n (x2 + (1 : Int32))) else (if w8 = p1 then (some (.inr (x2, M1))) else (fX7_elder_L18 p1 M1 n (x2 + (1 : Int32)))))))
def fX7_elder (p1 : Int32) (M : Mm) : Option (Int32 × Mm) :=
  lt (wI M 0 0 (0 : Int32)) (fun (M1 : Mm) => bP (fX7_in p1 (0 : Int32) (5 : Int32)) (fun (v4 : Int32) => if v4 = 0 then (some ((-1 : Int32), M1)) else (bS (fX7_elder_L18 p1 M1 50000 (0 : Int32)) (fun o40 => (fun (w6 : Int32) => some ((-9 : Int32), M1)) o40) (fun o40 => some o40))))
set_option maxHeartbeats 4000000 in
set_option maxRecDepth 100000 in
theorem kX7_elder (l : Launch) {D : va_G} {cy : Nat → ClassId} {ad : Nat → Nat} (hJ : Inj ad 15)  (p1 : Int32) (M : Mm) (r : Int32) (M' : Mm) (h : fX7_elder p1 M = some (r, M')) : Met l yX7_elder vX7_elder ({ frames := 1, cells := 0, slots := 0, locals := 22 } : Room) (PcF [.ref (ad 0), .int p1] D cy ad kdV shM rfM 15 M) (QcI r D cy ad kdV shM rfM 15 M') 0 0 (AV ad 15) := by
  refine Met.ofW (cc := cX7_elder) (maxL := 6) (ret := (some .int)) (by decide) rfl ?_
  intro p e s m args below meth c s₁ B hml hv
  obtain ⟨rfl, hP, hK, hN⟩ := hv
  have hr := B.returns
  have hlocks := B.notSynchronized
  have S : CallFix p m c cX7_elder 6 s ([.ref (ad 0), .int p1] : List Value).toArray vX7_elder RX7 := ⟨B.exec, B.bytes, hml, findClass_of_methodNamed B.named, atoms_spec (ws := vX7_elder) B.pre⟩
  have hq : ∀ w ∈ GW, w.before ([.ref (ad 0), .int p1] : List Value).toArray s = true := fun w h => S.2.2.2.2 w (List.mem_cons_of_mem _ h)
  have hA : ∀ k, k < 15 → AV ad 15 (ad k) := fun k hk => ⟨k, hk, rfl⟩
  have hW : WSt D cy ad kdV shM rfM 15 (AV ad 15) M s.heap s.heap [] := ⟨hP, va_S.rf⟩
  clear hP
  have iX7 : ∀ w ∈ wsX70, w ∈ vX7_elder := fun w h => List.mem_cons_of_mem _ (inX7 w h)
  have hl := lv_entry ([.ref (ad 0), .int p1]) (n := 6) (Nat.le_of_ble_eq_true rfl)
  rw [lg_entry_eq]
  generalize (lg_sl ([.ref (ad 0), .int p1]) ++ List.replicate (6 - (lg_sl ([.ref (ad 0), .int p1])).length) Slot.unset).toArray = ls at hl ⊢
  have hl : lv_has ls 6 [(0, .ref (ad 0)), (1, .int p1)] := hl
  rw [fX7_elder] at h
  refine lv_aload_n S.1 S.2.1 dX7_elder_0 rfl (lv_at hl 0 rfl) ?_
  refine lv_iconst (v := (0 : Int32)) S.1 S.2.1 dX7_elder_1 (by decide) ?_
  refine fl_put S hK hJ hA tyX7 tyX7_ok nmX7 iX7 rfl lM_0 sM_0 0 (by decide) (hq _ q_287) (fun _ h9 => h9) rfl (ty := .int) rfl rfl rfl (wI M 0 0 (0 : Int32)) (by decide) (fvs_setI _ _ _ _ _ _ _ rfl) (fun j _ hj => cof_wI_ne hj) hW dX7_elder_2 (fun H locs hW => ?_)
  obtain ⟨M1, e2, h⟩ := lt_some h
  rw [e2] at hW
  clear e2
  refine lv_iload_n S.1 S.2.1 dX7_elder_5 rfl (lv_at hl 1 rfl) ?_
  refine lv_iconst (v := (0 : Int32)) S.1 S.2.1 dX7_elder_6 (by decide) ?_
  refine lv_iconst (v := (5 : Int32)) S.1 S.2.1 dX7_elder_7 (by decide) ?_
  obtain ⟨v4, u3, h⟩ := bP_some h
  refine fl_doneP (fl_runS S (kX7_in l p1 (0 : Int32) (5 : Int32) v4 u3) (va_cwS 3 S.2.2.2.2 (gS q_289 q_290 q_291 q_288) rfl rfl rfl (by decide +kernel) ⟨Nat.le_of_ble_eq_true rfl, Nat.le_of_ble_eq_true rfl⟩) rfl hl.1 rfl (Nat.le_of_ble_eq_true rfl) dX7_elder_8 ⟨Nat.zero_le _, Nat.zero_le _⟩) hW (fun H locs hW => ?_)
  refine lv_if_ne (tgt := 16) S.1 S.2.1 dX7_elder_11 (by decide) (fun c5 => ?_) (fun c5 => ?_)
  · replace h := (if_neg c5).symm.trans h
    refine lv_iconst (v := (0 : Int32)) S.1 S.2.1 dX7_elder_16 (by decide) ?_
    refine lv_istore_n (lv' := [(2, .int (0 : Int32)), (0, .ref (ad 0)), (1, .int p1)]) S.1 S.2.1 dX7_elder_17 rfl hl (by decide) rfl (fun ls hl => ?_)
    have L18 : ∀ (n : Nat) (x2 : Int32) (o : (Int32) ⊕ (Int32 × Mm)), fX7_elder_L18 p1 M1 n x2 = some o → ∀ (H : Heap) (locs : List Loc) (ls : Array Slot), lv_has ls 6 [(0, .ref (ad 0)), (1, .int p1), (2, .int x2)] → WSt D cy ad kdV shM rfM 15 (AV ad 15) M1 s.heap H locs → (∀ (w6 : Int32), o = .inl w6 → ∀ (H : Heap) (locs : List Loc) (ls : Array Slot), lv_has ls 6 [(0, .ref (ad 0)), (1, .int p1), (2, .int w6)] → WSt D cy ad kdV shM rfM 15 (AV ad 15) M1 s.heap H locs → W p l e (headSpec vX7_elder ({ frames := 1, cells := 0, slots := 0, locals := 22 } : Room)).room s m ([.ref (ad 0), .int p1] : List Value).toArray below meth c H locs 0 0 (MQ below (QcI r D cy ad kdV shM rfM 15 M') ([.ref (ad 0), .int p1] : List Value).toArray s 0 0 (AV ad 15)) (F0 m 162 ls [])) → (∀ (rr : Int32 × Mm), o = .inr rr → ∀ (H : Heap) (locs : List Loc) (ls : Array Slot) (pc : Nat), WSt D cy ad kdV shM rfM 15 (AV ad 15) rr.2 s.heap H locs → decode cX7_elder pc = .ok (.ireturn, 1) → W p l e (headSpec vX7_elder ({ frames := 1, cells := 0, slots := 0, locals := 22 } : Room)).room s m ([.ref (ad 0), .int p1] : List Value).toArray below meth c H locs 0 0 (MQ below (QcI r D cy ad kdV shM rfM 15 M') ([.ref (ad 0), .int p1] : List Value).toArray s 0 0 (AV ad 15)) (F0 m pc ls [.int rr.1])) → W p l e (headSpec vX7_elder ({ frames := 1, cells := 0, slots := 0, locals := 22 } : Room)).room s m ([.ref (ad 0), .int p1] : List Value).toArray below meth c H locs 0 0 (MQ below (QcI r D cy ad kdV shM rfM 15 M') ([.ref (ad 0), .int p1] : List Value).toArray s 0 0 (AV ad 15)) (F0 m 18 ls []) := by
      intro n
      induction n with
      | zero => intro x2 o h; cases h
      | succ n ih =>
        intro x2 o h H locs ls hl hW K K2
        rw [fX7_elder_L18] at h
        refine lv_iload_n S.1 S.2.1 dX7_elder_18 rfl (lv_at hl 2 rfl) ?_
        refine lv_aload_n S.1 S.2.1 dX7_elder_19 rfl (lv_at hl 0 rfl) ?_
        refine fl_get S hK iX7 rfl lM_0 sM_0 10 (by decide) (hq _ q_319) (fun _ h9 => h9) (fvs_R rfl rfl) hW dX7_elder_20 ?_
        refine lv_iconst (v := (1 : Int32)) S.1 S.2.1 dX7_elder_23 (by decide) ?_
        refine fl_iald S hK lM_2 sM_2 (vp_dec (i := (1 : Int32)) (n := 8) (by decide)) hW dX7_elder_24 ?_
        refine lv_icmp_ge (tgt := 162) S.1 S.2.1 dX7_elder_25 (by decide) (fun c7 => ?_) (fun c7 => ?_)
        · replace h := (if_pos c7).symm.trans h
          exact K _ (Option.some.inj h).symm _ _ _ hl hW
        · replace h := (if_neg c7).symm.trans h
          refine lv_iconst (v := (0 : Int32)) S.1 S.2.1 dX7_elder_28 (by decide) ?_
          refine lv_istore_n (lv' := [(3, .int (0 : Int32)), (0, .ref (ad 0)), (1, .int p1), (2, .int x2)]) S.1 S.2.1 dX7_elder_29 rfl hl (by decide) rfl (fun ls hl => ?_)
          refine lv_iconst (v := (0 : Int32)) S.1 S.2.1 dX7_elder_30 (by decide) ?_
          refine lv_istore (lv' := [(4, .int (0 : Int32)), (3, .int (0 : Int32)), (0, .ref (ad 0)), (1, .int p1), (2, .int x2)]) S.1 S.2.1 dX7_elder_31 hl (by decide) rfl (fun ls hl => ?_)
          have L33 : ∀ (n : Nat) (x3_33 : Int32) (x4_33 : Int32) (w8 : Int32) (w9 : Int32), fX7_elder_L33 M1 x2 n x3_33 x4_33 = some (w8, w9) → ∀ (H : Heap) (locs : List Loc) (ls : Array Slot), lv_has ls 6 [(0, .ref (ad 0)), (1, .int p1), (2, .int x2), (3, .int x3_33), (4, .int x4_33)] → WSt D cy ad kdV shM rfM 15 (AV ad 15) M1 s.heap H locs → (∀ (H : Heap) (locs : List Loc) (ls : Array Slot), lv_has ls 6 [(0, .ref (ad 0)), (1, .int p1), (2, .int x2), (3, .int w8), (4, .int w9)] → WSt D cy ad kdV shM rfM 15 (AV ad 15) M1 s.heap H locs → W p l e (headSpec vX7_elder ({ frames := 1, cells := 0, slots := 0, locals := 22 } : Room)).room s m ([.ref (ad 0), .int p1] : List Value).toArray below meth c H locs 0 0 (MQ below (QcI r D cy ad kdV shM rfM 15 M') ([.ref (ad 0), .int p1] : List Value).toArray s 0 0 (AV ad 15)) (F0 m 135 ls [])) → W p l e (headSpec vX7_elder ({ frames := 1, cells := 0, slots := 0, locals := 22 } : Room)).room s m ([.ref (ad 0), .int p1] : List Value).toArray below meth c H locs 0 0 (MQ below (QcI r D cy ad kdV shM rfM 15 M') ([.ref (ad 0), .int p1] : List Value).toArray s 0 0 (AV ad 15)) (F0 m 33 ls []) := by
            intro n
            induction n with
            | zero => intro x3_33 x4_33 w8 w9 h; cases h
            | succ n ih =>
              intro x3_33 x4_33 w8 w9 h H locs ls hl hW K
              rw [fX7_elder_L33] at h
              refine lv_iload S.1 S.2.1 dX7_elder_33 (lv_at hl 4 rfl) ?_
              refine lv_aload_n S.1 S.2.1 dX7_elder_35 rfl (lv_at hl 0 rfl) ?_
              refine fl_get S hK iX7 rfl lM_0 sM_0 10 (by decide) (hq _ q_319) (fun _ h9 => h9) (fvs_R rfl rfl) hW dX7_elder_36 ?_
              refine lv_iconst (v := (1 : Int32)) S.1 S.2.1 dX7_elder_39 (by decide) ?_
              refine fl_iald S hK lM_2 sM_2 (vp_dec (i := (1 : Int32)) (n := 8) (by decide)) hW dX7_elder_40 ?_
              refine lv_icmp_ge (tgt := 135) S.1 S.2.1 dX7_elder_41 (by decide) (fun c10 => ?_) (fun c10 => ?_)
              · replace h := (if_pos c10).symm.trans h
                obtain ⟨rfl, rfl⟩ := s2 h
                exact K _ _ _ hl hW
              · replace h := (if_neg c10).symm.trans h
                refine lv_aload_n S.1 S.2.1 dX7_elder_44 rfl (lv_at hl 0 rfl) ?_
                refine fl_get S hK iX7 rfl lM_0 sM_0 14 (by decide) (hq _ q_327) (fun _ h9 => h9) (fvs_R rfl rfl) hW dX7_elder_45 ?_
                refine lv_bipush (v := (15 : Int32)) S.1 S.2.1 dX7_elder_48 (by decide) ?_
                refine lv_iload S.1 S.2.1 dX7_elder_50 (lv_at hl 4 rfl) ?_
                refine lv_iadd S.1 S.2.1 dX7_elder_52 ?_
                obtain ⟨g11, h⟩ := ix_some h
                refine fl_iald S hK lM_6 sM_6 g11 hW dX7_elder_53 ?_
                refine lv_aload_n S.1 S.2.1 dX7_elder_54 rfl (lv_at hl 0 rfl) ?_
                refine fl_get S hK iX7 rfl lM_0 sM_0 14 (by decide) (hq _ q_327) (fun _ h9 => h9) (fvs_R rfl rfl) hW dX7_elder_55 ?_
                refine lv_bipush (v := (15 : Int32)) S.1 S.2.1 dX7_elder_58 (by decide) ?_
                refine lv_iload_n S.1 S.2.1 dX7_elder_60 rfl (lv_at hl 2 rfl) ?_
                refine lv_iadd S.1 S.2.1 dX7_elder_61 ?_
                obtain ⟨g12, h⟩ := ix_some h
                refine fl_iald S hK lM_6 sM_6 g12 hW dX7_elder_62 ?_
                refine lv_icmp_gt (tgt := 94) S.1 S.2.1 dX7_elder_63 (by decide) (fun c13 => ?_) (fun c13 => ?_)
                · replace h := (if_pos c13).symm.trans h
                  refine lv_iconst (v := (1 : Int32)) S.1 S.2.1 dX7_elder_94 (by decide) ?_
                  refine lv_goto (tgt := 99) S.1 S.2.1 dX7_elder_95 (by decide) ?_
                  refine lv_istore (lv' := [(5, .int (1 : Int32)), (0, .ref (ad 0)), (1, .int p1), (2, .int x2), (3, .int x3_33), (4, .int x4_33)]) S.1 S.2.1 dX7_elder_99 hl (by decide) rfl (fun ls hl => ?_)
                  refine lv_iload_n S.1 S.2.1 dX7_elder_101 rfl (lv_at hl 4 rfl) ?_
                  refine lv_aload_n S.1 S.2.1 dX7_elder_102 rfl (lv_at hl 1 rfl) ?_
                  refine fl_get S hK iX7 rfl lM_0 sM_0 14 (by decide) (hq _ q_327) (fun _ h9 => h9) (fvs_R rfl rfl) hW dX7_elder_103 ?_
                  refine lv_bipush (v := (14 : Int32)) S.1 S.2.1 dX7_elder_106 (by decide) ?_
                  refine fl_iald S hK lM_6 sM_6 (vp_dec (i := (14 : Int32)) (n := 21) (by decide)) hW dX7_elder_108 ?_
                  refine lv_iload S.1 S.2.1 dX7_elder_109 (lv_at hl 5 rfl) ?_
                  obtain ⟨v15, u14, h⟩ := bP_some h
                  refine fl_doneP (fl_runS S (kX7_has l (M1.1 6 ((14 : Int32)).toNatClampNeg) x4_33 v15 u14) (va_cwS 2 S.2.2.2.2 (gS q_348 q_349 q_291 q_347) rfl rfl rfl (by decide +kernel) ⟨Nat.le_of_ble_eq_true rfl, Nat.le_of_ble_eq_true rfl⟩) rfl hl.1 rfl (Nat.le_of_ble_eq_true rfl) dX7_elder_111 ⟨Nat.zero_le _, Nat.zero_le _⟩) hW (fun H locs hW => ?_)
                  refine lv_if_eq (tgt := 126) S.1 S.2.1 dX7_elder_114 (by decide) (fun c16 => ?_) (fun c16 => ?_)
                  · replace h := (if_pos c16).symm.trans h
                    refine lv_iconst (v := (0 : Int32)) S.1 S.2.1 dX7_elder_126 (by decide) ?_
                    refine lv_iadd S.1 S.2.1 dX7_elder_127 ?_
                    refine lv_istore_n (lv' := [(3, .int (x3_33 + (0 : Int32))), (5, .int (1 : Int32)), (0, .ref (ad 0)), (1, .int p1), (2, .int x2), (4, .int x4_33)]) S.1 S.2.1 dX7_elder_128 rfl hl (by decide) rfl (fun ls hl => ?_)
                    refine lv_iinc (v := x4_33 + (1 : Int32)) (lv' := [(4, .int (x4_33 + (1 : Int32))), (3, .int (x3_33 + (0 : Int32))), (5, .int (1 : Int32)), (0, .ref (ad 0)), (1, .int p1), (2, .int x2)]) S.1 S.2.1 dX7_elder_129 hl (k := 5) rfl rfl (by decide) rfl (fun ls hl => ?_)
                    refine lv_goto (tgt := 33) S.1 S.2.1 dX7_elder_132 (by decide) ?_
                    exact ih _ _ _ _ h _ _ _ (lv_sub hl [3, 4, 5, 1, 0] rfl) hW K
                  · replace h := (if_neg c16).symm.trans h
                    refine lv_iload S.1 S.2.1 dX7_elder_117 (lv_at hl 0 rfl) ?_
                    refine lv_if_eq (tgt := 126) S.1 S.2.1 dX7_elder_119 (by decide) (fun c17 => ?_) (fun c17 => ?_)
                    · replace h := (if_pos c17).symm.trans h
                      refine lv_iconst (v := (0 : Int32)) S.1 S.2.1 dX7_elder_126 (by decide) ?_
                      refine lv_iadd S.1 S.2.1 dX7_elder_127 ?_
                      refine lv_istore_n (lv' := [(3, .int (x3_33 + (0 : Int32))), (5, .int (1 : Int32)), (0, .ref (ad 0)), (1, .int p1), (2, .int x2), (4, .int x4_33)]) S.1 S.2.1 dX7_elder_128 rfl hl (by decide) rfl (fun ls hl => ?_)
                      refine lv_iinc (v := x4_33 + (1 : Int32)) (lv' := [(4, .int (x4_33 + (1 : Int32))), (3, .int (x3_33 + (0 : Int32))), (5, .int (1 : Int32)), (0, .ref (ad 0)), (1, .int p1), (2, .int x2)]) S.1 S.2.1 dX7_elder_129 hl (k := 5) rfl rfl (by decide) rfl (fun ls hl => ?_)
                      refine lv_goto (tgt := 33) S.1 S.2.1 dX7_elder_132 (by decide) ?_
                      exact ih _ _ _ _ h _ _ _ (lv_sub hl [3, 4, 5, 1, 0] rfl) hW K
                    · replace h := (if_neg c17).symm.trans h
                      refine lv_iconst (v := (1 : Int32)) S.1 S.2.1 dX7_elder_122 (by decide) ?_
                      refine lv_goto (tgt := 127) S.1 S.2.1 dX7_elder_123 (by decide) ?_
                      refine lv_iadd S.1 S.2.1 dX7_elder_127 ?_
                      refine lv_istore_n (lv' := [(3, .int (x3_33 + (1 : Int32))), (5, .int (1 : Int32)), (0, .ref (ad 0)), (1, .int p1), (2, .int x2), (4, .int x4_33)]) S.1 S.2.1 dX7_elder_128 rfl hl (by decide) rfl (fun ls hl => ?_)
                      refine lv_iinc (v := x4_33 + (1 : Int32)) (lv' := [(4, .int (x4_33 + (1 : Int32))), (3, .int (x3_33 + (1 : Int32))), (5, .int (1 : Int32)), (0, .ref (ad 0)), (1, .int p1), (2, .int x2)]) S.1 S.2.1 dX7_elder_129 hl (k := 5) rfl rfl (by decide) rfl (fun ls hl => ?_)
                      refine lv_goto (tgt := 33) S.1 S.2.1 dX7_elder_132 (by decide) ?_
                      exact ih _ _ _ _ h _ _ _ (lv_sub hl [3, 4, 5, 1, 0] rfl) hW K
                · replace h := (if_neg c13).symm.trans h
                  refine lv_aload_n S.1 S.2.1 dX7_elder_66 rfl (lv_at hl 0 rfl) ?_
                  refine fl_get S hK iX7 rfl lM_0 sM_0 14 (by decide) (hq _ q_327) (fun _ h9 => h9) (fvs_R rfl rfl) hW dX7_elder_67 ?_
                  refine lv_bipush (v := (15 : Int32)) S.1 S.2.1 dX7_elder_70 (by decide) ?_
                  refine lv_iload S.1 S.2.1 dX7_elder_72 (lv_at hl 4 rfl) ?_
                  refine lv_iadd S.1 S.2.1 dX7_elder_74 ?_
                  obtain ⟨g18, h⟩ := ix_some h
                  refine fl_iald S hK lM_6 sM_6 g18 hW dX7_elder_75 ?_
                  refine lv_aload_n S.1 S.2.1 dX7_elder_76 rfl (lv_at hl 0 rfl) ?_
                  refine fl_get S hK iX7 rfl lM_0 sM_0 14 (by decide) (hq _ q_327) (fun _ h9 => h9) (fvs_R rfl rfl) hW dX7_elder_77 ?_
                  refine lv_bipush (v := (15 : Int32)) S.1 S.2.1 dX7_elder_80 (by decide) ?_
                  refine lv_iload_n S.1 S.2.1 dX7_elder_82 rfl (lv_at hl 2 rfl) ?_
                  refine lv_iadd S.1 S.2.1 dX7_elder_83 ?_
                  obtain ⟨g19, h⟩ := ix_some h
                  refine fl_iald S hK lM_6 sM_6 g19 hW dX7_elder_84 ?_
                  refine lv_icmp_ne (tgt := 98) S.1 S.2.1 dX7_elder_85 (by decide) (fun c20 => ?_) (fun c20 => ?_)
                  · replace h := (if_neg c20).symm.trans h
                    refine lv_iconst (v := (0 : Int32)) S.1 S.2.1 dX7_elder_98 (by decide) ?_
                    refine lv_istore (lv' := [(5, .int (0 : Int32)), (0, .ref (ad 0)), (1, .int p1), (2, .int x2), (3, .int x3_33), (4, .int x4_33)]) S.1 S.2.1 dX7_elder_99 hl (by decide) rfl (fun ls hl => ?_)
                    refine lv_iload_n S.1 S.2.1 dX7_elder_101 rfl (lv_at hl 4 rfl) ?_
                    refine lv_aload_n S.1 S.2.1 dX7_elder_102 rfl (lv_at hl 1 rfl) ?_
                    refine fl_get S hK iX7 rfl lM_0 sM_0 14 (by decide) (hq _ q_327) (fun _ h9 => h9) (fvs_R rfl rfl) hW dX7_elder_103 ?_
                    refine lv_bipush (v := (14 : Int32)) S.1 S.2.1 dX7_elder_106 (by decide) ?_
                    refine fl_iald S hK lM_6 sM_6 (vp_dec (i := (14 : Int32)) (n := 21) (by decide)) hW dX7_elder_108 ?_
                    refine lv_iload S.1 S.2.1 dX7_elder_109 (lv_at hl 5 rfl) ?_
                    obtain ⟨v31, u30, h⟩ := bP_some h
                    refine fl_doneP (fl_runS S (kX7_has l (M1.1 6 ((14 : Int32)).toNatClampNeg) x4_33 v31 u30) (va_cwS 2 S.2.2.2.2 (gS q_348 q_349 q_291 q_347) rfl rfl rfl (by decide +kernel) ⟨Nat.le_of_ble_eq_true rfl, Nat.le_of_ble_eq_true rfl⟩) rfl hl.1 rfl (Nat.le_of_ble_eq_true rfl) dX7_elder_111 ⟨Nat.zero_le _, Nat.zero_le _⟩) hW (fun H locs hW => ?_)
                    refine lv_if_eq (tgt := 126) S.1 S.2.1 dX7_elder_114 (by decide) (fun c32 => ?_) (fun c32 => ?_)
                    · replace h := (if_pos c32).symm.trans h
                      refine lv_iconst (v := (0 : Int32)) S.1 S.2.1 dX7_elder_126 (by decide) ?_
                      refine lv_iadd S.1 S.2.1 dX7_elder_127 ?_
                      refine lv_istore_n (lv' := [(3, .int (x3_33 + (0 : Int32))), (5, .int (0 : Int32)), (0, .ref (ad 0)), (1, .int p1), (2, .int x2), (4, .int x4_33)]) S.1 S.2.1 dX7_elder_128 rfl hl (by decide) rfl (fun ls hl => ?_)
                      refine lv_iinc (v := x4_33 + (1 : Int32)) (lv' := [(4, .int (x4_33 + (1 : Int32))), (3, .int (x3_33 + (0 : Int32))), (5, .int (0 : Int32)), (0, .ref (ad 0)), (1, .int p1), (2, .int x2)]) S.1 S.2.1 dX7_elder_129 hl (k := 5) rfl rfl (by decide) rfl (fun ls hl => ?_)
                      refine lv_goto (tgt := 33) S.1 S.2.1 dX7_elder_132 (by decide) ?_
                      exact ih _ _ _ _ h _ _ _ (lv_sub hl [3, 4, 5, 1, 0] rfl) hW K
                    · replace h := (if_neg c32).symm.trans h
                      refine lv_iload S.1 S.2.1 dX7_elder_117 (lv_at hl 0 rfl) ?_
                      refine lv_if_eq (tgt := 126) S.1 S.2.1 dX7_elder_119 (by decide) (fun c33 => ?_) (fun c33 => ?_)
                      · replace h := (if_pos c33).symm.trans h
                        refine lv_iconst (v := (0 : Int32)) S.1 S.2.1 dX7_elder_126 (by decide) ?_
                        refine lv_iadd S.1 S.2.1 dX7_elder_127 ?_
                        refine lv_istore_n (lv' := [(3, .int (x3_33 + (0 : Int32))), (5, .int (0 : Int32)), (0, .ref (ad 0)), (1, .int p1), (2, .int x2), (4, .int x4_33)]) S.1 S.2.1 dX7_elder_128 rfl hl (by decide) rfl (fun ls hl => ?_)
                        refine lv_iinc (v := x4_33 + (1 : Int32)) (lv' := [(4, .int (x4_33 + (1 : Int32))), (3, .int (x3_33 + (0 : Int32))), (5, .int (0 : Int32)), (0, .ref (ad 0)), (1, .int p1), (2, .int x2)]) S.1 S.2.1 dX7_elder_129 hl (k := 5) rfl rfl (by decide) rfl (fun ls hl => ?_)
                        refine lv_goto (tgt := 33) S.1 S.2.1 dX7_elder_132 (by decide) ?_
                        exact ih _ _ _ _ h _ _ _ (lv_sub hl [3, 4, 5, 1, 0] rfl) hW K
                      · replace h := (if_neg c33).symm.trans h
                        refine lv_iconst (v := (1 : Int32)) S.1 S.2.1 dX7_elder_122 (by decide) ?_
                        refine lv_goto (tgt := 127) S.1 S.2.1 dX7_elder_123 (by decide) ?_
                        refine lv_iadd S.1 S.2.1 dX7_elder_127 ?_
                        refine lv_istore_n (lv' := [(3, .int (x3_33 + (1 : Int32))), (5, .int (0 : Int32)), (0, .ref (ad 0)), (1, .int p1), (2, .int x2), (4, .int x4_33)]) S.1 S.2.1 dX7_elder_128 rfl hl (by decide) rfl (fun ls hl => ?_)
                        refine lv_iinc (v := x4_33 + (1 : Int32)) (lv' := [(4, .int (x4_33 + (1 : Int32))), (3, .int (x3_33 + (1 : Int32))), (5, .int (0 : Int32)), (0, .ref (ad 0)), (1, .int p1), (2, .int x2)]) S.1 S.2.1 dX7_elder_129 hl (k := 5) rfl rfl (by decide) rfl (fun ls hl => ?_)
                        refine lv_goto (tgt := 33) S.1 S.2.1 dX7_elder_132 (by decide) ?_
                        exact ih _ _ _ _ h _ _ _ (lv_sub hl [3, 4, 5, 1, 0] rfl) hW K
                  · replace h := (if_pos c20).symm.trans h
                    refine lv_iload S.1 S.2.1 dX7_elder_88 (lv_at hl 4 rfl) ?_
                    refine lv_iload_n S.1 S.2.1 dX7_elder_90 rfl (lv_at hl 2 rfl) ?_
                    refine lv_icmp_ge (tgt := 98) S.1 S.2.1 dX7_elder_91 (by decide) (fun c21 => ?_) (fun c21 => ?_)
                    · replace h := (if_pos c21).symm.trans h
                      refine lv_iconst (v := (0 : Int32)) S.1 S.2.1 dX7_elder_98 (by decide) ?_
                      refine lv_istore (lv' := [(5, .int (0 : Int32)), (0, .ref (ad 0)), (1, .int p1), (2, .int x2), (3, .int x3_33), (4, .int x4_33)]) S.1 S.2.1 dX7_elder_99 hl (by decide) rfl (fun ls hl => ?_)
                      refine lv_iload_n S.1 S.2.1 dX7_elder_101 rfl (lv_at hl 4 rfl) ?_
                      refine lv_aload_n S.1 S.2.1 dX7_elder_102 rfl (lv_at hl 1 rfl) ?_
                      refine fl_get S hK iX7 rfl lM_0 sM_0 14 (by decide) (hq _ q_327) (fun _ h9 => h9) (fvs_R rfl rfl) hW dX7_elder_103 ?_
                      refine lv_bipush (v := (14 : Int32)) S.1 S.2.1 dX7_elder_106 (by decide) ?_
                      refine fl_iald S hK lM_6 sM_6 (vp_dec (i := (14 : Int32)) (n := 21) (by decide)) hW dX7_elder_108 ?_
                      refine lv_iload S.1 S.2.1 dX7_elder_109 (lv_at hl 5 rfl) ?_
                      obtain ⟨v23, u22, h⟩ := bP_some h
                      refine fl_doneP (fl_runS S (kX7_has l (M1.1 6 ((14 : Int32)).toNatClampNeg) x4_33 v23 u22) (va_cwS 2 S.2.2.2.2 (gS q_348 q_349 q_291 q_347) rfl rfl rfl (by decide +kernel) ⟨Nat.le_of_ble_eq_true rfl, Nat.le_of_ble_eq_true rfl⟩) rfl hl.1 rfl (Nat.le_of_ble_eq_true rfl) dX7_elder_111 ⟨Nat.zero_le _, Nat.zero_le _⟩) hW (fun H locs hW => ?_)
                      refine lv_if_eq (tgt := 126) S.1 S.2.1 dX7_elder_114 (by decide) (fun c24 => ?_) (fun c24 => ?_)
                      · replace h := (if_pos c24).symm.trans h
                        refine lv_iconst (v := (0 : Int32)) S.1 S.2.1 dX7_elder_126 (by decide) ?_
                        refine lv_iadd S.1 S.2.1 dX7_elder_127 ?_
                        refine lv_istore_n (lv' := [(3, .int (x3_33 + (0 : Int32))), (5, .int (0 : Int32)), (0, .ref (ad 0)), (1, .int p1), (2, .int x2), (4, .int x4_33)]) S.1 S.2.1 dX7_elder_128 rfl hl (by decide) rfl (fun ls hl => ?_)
                        refine lv_iinc (v := x4_33 + (1 : Int32)) (lv' := [(4, .int (x4_33 + (1 : Int32))), (3, .int (x3_33 + (0 : Int32))), (5, .int (0 : Int32)), (0, .ref (ad 0)), (1, .int p1), (2, .int x2)]) S.1 S.2.1 dX7_elder_129 hl (k := 5) rfl rfl (by decide) rfl (fun ls hl => ?_)
                        refine lv_goto (tgt := 33) S.1 S.2.1 dX7_elder_132 (by decide) ?_
                        exact ih _ _ _ _ h _ _ _ (lv_sub hl [3, 4, 5, 1, 0] rfl) hW K
                      · replace h := (if_neg c24).symm.trans h
                        refine lv_iload S.1 S.2.1 dX7_elder_117 (lv_at hl 0 rfl) ?_
                        refine lv_if_eq (tgt := 126) S.1 S.2.1 dX7_elder_119 (by decide) (fun c25 => ?_) (fun c25 => ?_)
                        · replace h := (if_pos c25).symm.trans h
                          refine lv_iconst (v := (0 : Int32)) S.1 S.2.1 dX7_elder_126 (by decide) ?_
                          refine lv_iadd S.1 S.2.1 dX7_elder_127 ?_
                          refine lv_istore_n (lv' := [(3, .int (x3_33 + (0 : Int32))), (5, .int (0 : Int32)), (0, .ref (ad 0)), (1, .int p1), (2, .int x2), (4, .int x4_33)]) S.1 S.2.1 dX7_elder_128 rfl hl (by decide) rfl (fun ls hl => ?_)
                          refine lv_iinc (v := x4_33 + (1 : Int32)) (lv' := [(4, .int (x4_33 + (1 : Int32))), (3, .int (x3_33 + (0 : Int32))), (5, .int (0 : Int32)), (0, .ref (ad 0)), (1, .int p1), (2, .int x2)]) S.1 S.2.1 dX7_elder_129 hl (k := 5) rfl rfl (by decide) rfl (fun ls hl => ?_)
                          refine lv_goto (tgt := 33) S.1 S.2.1 dX7_elder_132 (by decide) ?_
                          exact ih _ _ _ _ h _ _ _ (lv_sub hl [3, 4, 5, 1, 0] rfl) hW K
                        · replace h := (if_neg c25).symm.trans h
                          refine lv_iconst (v := (1 : Int32)) S.1 S.2.1 dX7_elder_122 (by decide) ?_
                          refine lv_goto (tgt := 127) S.1 S.2.1 dX7_elder_123 (by decide) ?_
                          refine lv_iadd S.1 S.2.1 dX7_elder_127 ?_
                          refine lv_istore_n (lv' := [(3, .int (x3_33 + (1 : Int32))), (5, .int (0 : Int32)), (0, .ref (ad 0)), (1, .int p1), (2, .int x2), (4, .int x4_33)]) S.1 S.2.1 dX7_elder_128 rfl hl (by decide) rfl (fun ls hl => ?_)
                          refine lv_iinc (v := x4_33 + (1 : Int32)) (lv' := [(4, .int (x4_33 + (1 : Int32))), (3, .int (x3_33 + (1 : Int32))), (5, .int (0 : Int32)), (0, .ref (ad 0)), (1, .int p1), (2, .int x2)]) S.1 S.2.1 dX7_elder_129 hl (k := 5) rfl rfl (by decide) rfl (fun ls hl => ?_)
                          refine lv_goto (tgt := 33) S.1 S.2.1 dX7_elder_132 (by decide) ?_
                          exact ih _ _ _ _ h _ _ _ (lv_sub hl [3, 4, 5, 1, 0] rfl) hW K
                    · replace h := (if_neg c21).symm.trans h
                      refine lv_iconst (v := (1 : Int32)) S.1 S.2.1 dX7_elder_94 (by decide) ?_
                      refine lv_goto (tgt := 99) S.1 S.2.1 dX7_elder_95 (by decide) ?_
                      refine lv_istore (lv' := [(5, .int (1 : Int32)), (0, .ref (ad 0)), (1, .int p1), (2, .int x2), (3, .int x3_33), (4, .int x4_33)]) S.1 S.2.1 dX7_elder_99 hl (by decide) rfl (fun ls hl => ?_)
                      refine lv_iload_n S.1 S.2.1 dX7_elder_101 rfl (lv_at hl 4 rfl) ?_
                      refine lv_aload_n S.1 S.2.1 dX7_elder_102 rfl (lv_at hl 1 rfl) ?_
                      refine fl_get S hK iX7 rfl lM_0 sM_0 14 (by decide) (hq _ q_327) (fun _ h9 => h9) (fvs_R rfl rfl) hW dX7_elder_103 ?_
                      refine lv_bipush (v := (14 : Int32)) S.1 S.2.1 dX7_elder_106 (by decide) ?_
                      refine fl_iald S hK lM_6 sM_6 (vp_dec (i := (14 : Int32)) (n := 21) (by decide)) hW dX7_elder_108 ?_
                      refine lv_iload S.1 S.2.1 dX7_elder_109 (lv_at hl 5 rfl) ?_
                      obtain ⟨v27, u26, h⟩ := bP_some h
                      refine fl_doneP (fl_runS S (kX7_has l (M1.1 6 ((14 : Int32)).toNatClampNeg) x4_33 v27 u26) (va_cwS 2 S.2.2.2.2 (gS q_348 q_349 q_291 q_347) rfl rfl rfl (by decide +kernel) ⟨Nat.le_of_ble_eq_true rfl, Nat.le_of_ble_eq_true rfl⟩) rfl hl.1 rfl (Nat.le_of_ble_eq_true rfl) dX7_elder_111 ⟨Nat.zero_le _, Nat.zero_le _⟩) hW (fun H locs hW => ?_)
                      refine lv_if_eq (tgt := 126) S.1 S.2.1 dX7_elder_114 (by decide) (fun c28 => ?_) (fun c28 => ?_)
                      · replace h := (if_pos c28).symm.trans h
                        refine lv_iconst (v := (0 : Int32)) S.1 S.2.1 dX7_elder_126 (by decide) ?_
                        refine lv_iadd S.1 S.2.1 dX7_elder_127 ?_
                        refine lv_istore_n (lv' := [(3, .int (x3_33 + (0 : Int32))), (5, .int (1 : Int32)), (0, .ref (ad 0)), (1, .int p1), (2, .int x2), (4, .int x4_33)]) S.1 S.2.1 dX7_elder_128 rfl hl (by decide) rfl (fun ls hl => ?_)
                        refine lv_iinc (v := x4_33 + (1 : Int32)) (lv' := [(4, .int (x4_33 + (1 : Int32))), (3, .int (x3_33 + (0 : Int32))), (5, .int (1 : Int32)), (0, .ref (ad 0)), (1, .int p1), (2, .int x2)]) S.1 S.2.1 dX7_elder_129 hl (k := 5) rfl rfl (by decide) rfl (fun ls hl => ?_)
                        refine lv_goto (tgt := 33) S.1 S.2.1 dX7_elder_132 (by decide) ?_
                        exact ih _ _ _ _ h _ _ _ (lv_sub hl [3, 4, 5, 1, 0] rfl) hW K
                      · replace h := (if_neg c28).symm.trans h
                        refine lv_iload S.1 S.2.1 dX7_elder_117 (lv_at hl 0 rfl) ?_
                        refine lv_if_eq (tgt := 126) S.1 S.2.1 dX7_elder_119 (by decide) (fun c29 => ?_) (fun c29 => ?_)
                        · replace h := (if_pos c29).symm.trans h
                          refine lv_iconst (v := (0 : Int32)) S.1 S.2.1 dX7_elder_126 (by decide) ?_
                          refine lv_iadd S.1 S.2.1 dX7_elder_127 ?_
                          refine lv_istore_n (lv' := [(3, .int (x3_33 + (0 : Int32))), (5, .int (1 : Int32)), (0, .ref (ad 0)), (1, .int p1), (2, .int x2), (4, .int x4_33)]) S.1 S.2.1 dX7_elder_128 rfl hl (by decide) rfl (fun ls hl => ?_)
                          refine lv_iinc (v := x4_33 + (1 : Int32)) (lv' := [(4, .int (x4_33 + (1 : Int32))), (3, .int (x3_33 + (0 : Int32))), (5, .int (1 : Int32)), (0, .ref (ad 0)), (1, .int p1), (2, .int x2)]) S.1 S.2.1 dX7_elder_129 hl (k := 5) rfl rfl (by decide) rfl (fun ls hl => ?_)
                          refine lv_goto (tgt := 33) S.1 S.2.1 dX7_elder_132 (by decide) ?_
                          exact ih _ _ _ _ h _ _ _ (lv_sub hl [3, 4, 5, 1, 0] rfl) hW K
                        · replace h := (if_neg c29).symm.trans h
                          refine lv_iconst (v := (1 : Int32)) S.1 S.2.1 dX7_elder_122 (by decide) ?_
                          refine lv_goto (tgt := 127) S.1 S.2.1 dX7_elder_123 (by decide) ?_
                          refine lv_iadd S.1 S.2.1 dX7_elder_127 ?_
                          refine lv_istore_n (lv' := [(3, .int (x3_33 + (1 : Int32))), (5, .int (1 : Int32)), (0, .ref (ad 0)), (1, .int p1), (2, .int x2), (4, .int x4_33)]) S.1 S.2.1 dX7_elder_128 rfl hl (by decide) rfl (fun ls hl => ?_)
                          refine lv_iinc (v := x4_33 + (1 : Int32)) (lv' := [(4, .int (x4_33 + (1 : Int32))), (3, .int (x3_33 + (1 : Int32))), (5, .int (1 : Int32)), (0, .ref (ad 0)), (1, .int p1), (2, .int x2)]) S.1 S.2.1 dX7_elder_129 hl (k := 5) rfl rfl (by decide) rfl (fun ls hl => ?_)
                          refine lv_goto (tgt := 33) S.1 S.2.1 dX7_elder_132 (by decide) ?_
                          exact ih _ _ _ _ h _ _ _ (lv_sub hl [3, 4, 5, 1, 0] rfl) hW K
          obtain ⟨w8, w9, u38, h⟩ := b2_some h
          refine L33 50000 _ _ _ _ u38 _ _ _ (lv_sub hl [2, 3, 4, 1, 0] rfl) hW (fun H locs ls hl hW => ?_)
          clear L33
          refine lv_aload_n S.1 S.2.1 dX7_elder_135 rfl (lv_at hl 0 rfl) ?_
          refine fl_get S hK iX7 rfl lM_0 sM_0 14 (by decide) (hq _ q_327) (fun _ h9 => h9) (fvs_R rfl rfl) hW dX7_elder_136 ?_
          refine lv_bipush (v := (14 : Int32)) S.1 S.2.1 dX7_elder_139 (by decide) ?_
          refine fl_iald S hK lM_6 sM_6 (vp_dec (i := (14 : Int32)) (n := 21) (by decide)) hW dX7_elder_141 ?_
          refine lv_iload_n S.1 S.2.1 dX7_elder_142 rfl (lv_at hl 2 rfl) ?_
          obtain ⟨v35, u34, h⟩ := bP_some h
          refine fl_doneP (fl_runS S (kX7_has l (M1.1 6 ((14 : Int32)).toNatClampNeg) x2 v35 u34) (va_cwS 2 S.2.2.2.2 (gS q_348 q_349 q_291 q_347) rfl rfl rfl (by decide +kernel) ⟨Nat.le_of_ble_eq_true rfl, Nat.le_of_ble_eq_true rfl⟩) rfl hl.1 rfl (Nat.le_of_ble_eq_true rfl) dX7_elder_143 ⟨Nat.zero_le _, Nat.zero_le _⟩) hW (fun H locs hW => ?_)
          refine lv_if_eq (tgt := 156) S.1 S.2.1 dX7_elder_146 (by decide) (fun c36 => ?_) (fun c36 => ?_)
          · replace h := (if_pos c36).symm.trans h
            refine lv_iinc (v := x2 + (1 : Int32)) (lv' := [(2, .int (x2 + (1 : Int32))), (0, .ref (ad 0)), (1, .int p1), (3, .int w8), (4, .int w9)]) S.1 S.2.1 dX7_elder_156 hl (k := 2) rfl rfl (by decide) rfl (fun ls hl => ?_)
            refine lv_goto (tgt := 18) S.1 S.2.1 dX7_elder_159 (by decide) ?_
            exact ih _ _ h _ _ _ (lv_sub hl [1, 2, 0] rfl) hW K K2
          · replace h := (if_neg c36).symm.trans h
            refine lv_iload_n S.1 S.2.1 dX7_elder_149 rfl (lv_at hl 3 rfl) ?_
            refine lv_iload_n S.1 S.2.1 dX7_elder_150 rfl (lv_at hl 1 rfl) ?_
            refine lv_icmp_ne (tgt := 156) S.1 S.2.1 dX7_elder_151 (by decide) (fun c37 => ?_) (fun c37 => ?_)
            · replace h := (if_neg c37).symm.trans h
              refine lv_iinc (v := x2 + (1 : Int32)) (lv' := [(2, .int (x2 + (1 : Int32))), (0, .ref (ad 0)), (1, .int p1), (3, .int w8), (4, .int w9)]) S.1 S.2.1 dX7_elder_156 hl (k := 2) rfl rfl (by decide) rfl (fun ls hl => ?_)
              refine lv_goto (tgt := 18) S.1 S.2.1 dX7_elder_159 (by decide) ?_
              exact ih _ _ h _ _ _ (lv_sub hl [1, 2, 0] rfl) hW K K2
            · replace h := (if_pos c37).symm.trans h
              refine lv_iload_n S.1 S.2.1 dX7_elder_154 rfl (lv_at hl 2 rfl) ?_
              exact K2 _ (Option.some.inj h).symm _ _ _ _ hW dX7_elder_155
    rcases bS_some h with ⟨o40, u39, h⟩ | ⟨o40, u39, h⟩
    · obtain ⟨w6, rfl⟩ : ∃ z, z = o40 := ⟨_, rfl⟩
      refine L18 50000 _ _ u39 _ _ _ (lv_sub hl [1, 2, 0] rfl) hW (fun w6z e H locs ls hl hW => ?_) (fun rr e => by cases e)
      cases e
      refine lv_bipush (v := (-9 : Int32)) S.1 S.2.1 dX7_elder_162 (by decide) ?_
      obtain ⟨rfl, rfl⟩ := s2 h
      exact fl_iret S.1 S.2.1 hr hlocks hW dX7_elder_164
    · refine L18 50000 _ _ u39 _ _ _ (lv_sub hl [1, 2, 0] rfl) hW (fun _ e => by cases e) (fun rr e H locs ls pc hW hd => ?_)
      cases e
      obtain rfl := s1 h
      exact fl_iret S.1 S.2.1 hr hlocks hW hd
  · replace h := (if_pos c5).symm.trans h
    refine lv_iconst (v := (-1 : Int32)) S.1 S.2.1 dX7_elder_14 (by decide) ?_
    obtain ⟨rfl, rfl⟩ := s2 h
    exact fl_iret S.1 S.2.1 hr hlocks hW dX7_elder_15
def fX7_odds_L48 (p1 : Int32) (M1 : Mm) : Nat → Int32 → Int32 → Option (Int32 × Int32)
  | 0, _, _ => none
  | n + 1, x4, x5 => if (M1.1 2 ((0 : Int32)).toNatClampNeg) ≤ x5 then (some (x4, x5)) else (bP (fX7_ageOf x5 M1) (fun (v15 : Int32) => if (M1.1 2 ((3 : Int32)).toNatClampNeg) ≤ v15 then (fX7_odds_L48 p1 M1 n (x4 + (1 : Int32)) (x5 + (1 : Int32))) else (ix p1 10 (ix p1 10 (bP (fX7_in v15 (M1.1 4 (p1).toNatClampNeg) (M1.1 5 (p1).toNatClampNeg)) (fun (v20 : Int32) => if v20 = 0 then (fX7_odds_L48 p1 M1 n (x4 + (1 : Int32)) (x5 + (1 : Int32))) else (fX7_odds_L48 p1 M1 n (x4 + (0 : Int32)) (x5 + (1 : Int32)))))))))
def fX7_odds (p1 : Int32) (p2 : Int32) (M : Mm) : Option (Int32 × Mm) :=
  lt (wI M 0 0 (0 : Int32)) (fun (M1 : Mm) => bP (fX7_isWork p1 M1) (fun (v4 : Int32) => if v4 = 0 then (some ((-1 : Int32), M1)) else (bP (fX7_in p2 (0 : Int32) (1 : Int32)) (fun (v7 : Int32) => if v7 = 0 then (some ((-1 : Int32), M1)) else (bP (fX7_ones (M1.1 6 ((13 : Int32)).toNatClampNeg)) (fun (v10 : Int32) => b2 (fX7_odds_L48 p1 M1 50000 (0 : Int32) (0 : Int32)) (fun (w11 : Int32) (w12 : Int32) => bP (if (M1.1 2 ((0 : Int32)).toNatClampNeg) = 0 then (some (1 : Int32)) else (bP (fX7_power (M1.1 2 ((0 : Int32)).toNatClampNeg) ((M1.1 2 ((1 : Int32)).toNatClampNeg) - v10)) (fun (v26 : Int32) => some v26))) (fun (j23 : Int32) => bP (if (M1.1 2 ((0 : Int32)).toNatClampNeg) = 0 then (some (0 : Int32)) else (bP (fX7_power w11 ((M1.1 2 ((1 : Int32)).toNatClampNeg) - v10)) (fun (v31 : Int32) => some (j23 - v31)))) (fun (j28 : Int32) => bP (fX7_gcd j28 j23) (fun (v33 : Int32) => if p2 = 0 then (nz v33 (some (j28 / v33, M1))) else (nz v33 (some (j23 / v33, M1)))))))))))))
set_option maxHeartbeats 4000000 in
set_option maxRecDepth 100000 in
theorem kX7_odds (l : Launch) {D : va_G} {cy : Nat → ClassId} {ad : Nat → Nat} (hJ : Inj ad 15)  (p1 : Int32) (p2 : Int32) (M : Mm) (r : Int32) (M' : Mm) (h : fX7_odds p1 p2 M = some (r, M')) : Met l yX7_odds vX7_odds ({ frames := 3, cells := 0, slots := 0, locals := 66 } : Room) (PcF [.ref (ad 0), .int p1, .int p2] D cy ad kdV shM rfM 15 M) (QcI r D cy ad kdV shM rfM 15 M') 0 0 (AV ad 15) := by
  refine Met.ofW (cc := cX7_odds) (maxL := 8) (ret := (some .int)) (by decide) rfl ?_
  intro p e s m args below meth c s₁ B hml hv
  obtain ⟨rfl, hP, hK, hN⟩ := hv
  have hr := B.returns
  have hlocks := B.notSynchronized
  have S : CallFix p m c cX7_odds 8 s ([.ref (ad 0), .int p1, .int p2] : List Value).toArray vX7_odds RX7 := ⟨B.exec, B.bytes, hml, findClass_of_methodNamed B.named, atoms_spec (ws := vX7_odds) B.pre⟩
  have hq : ∀ w ∈ GW, w.before ([.ref (ad 0), .int p1, .int p2] : List Value).toArray s = true := fun w h => S.2.2.2.2 w (List.mem_cons_of_mem _ h)
  have hA : ∀ k, k < 15 → AV ad 15 (ad k) := fun k hk => ⟨k, hk, rfl⟩
  have hW : WSt D cy ad kdV shM rfM 15 (AV ad 15) M s.heap s.heap [] := ⟨hP, va_S.rf⟩
  clear hP
  have iX7 : ∀ w ∈ wsX70, w ∈ vX7_odds := fun w h => List.mem_cons_of_mem _ (inX7 w h)
  have hl := lv_entry ([.ref (ad 0), .int p1, .int p2]) (n := 8) (Nat.le_of_ble_eq_true rfl)
  rw [lg_entry_eq]
  generalize (lg_sl ([.ref (ad 0), .int p1, .int p2]) ++ List.replicate (8 - (lg_sl ([.ref (ad 0), .int p1, .int p2])).length) Slot.unset).toArray = ls at hl ⊢
  have hl : lv_has ls 8 [(0, .ref (ad 0)), (1, .int p1), (2, .int p2)] := hl
  rw [fX7_odds] at h
  refine lv_aload_n S.1 S.2.1 dX7_odds_0 rfl (lv_at hl 0 rfl) ?_
  refine lv_iconst (v := (0 : Int32)) S.1 S.2.1 dX7_odds_1 (by decide) ?_
  refine fl_put S hK hJ hA tyX7 tyX7_ok nmX7 iX7 rfl lM_0 sM_0 0 (by decide) (hq _ q_287) (fun _ h9 => h9) rfl (ty := .int) rfl rfl rfl (wI M 0 0 (0 : Int32)) (by decide) (fvs_setI _ _ _ _ _ _ _ rfl) (fun j _ hj => cof_wI_ne hj) hW dX7_odds_2 (fun H locs hW => ?_)
  obtain ⟨M1, e2, h⟩ := lt_some h
  rw [e2] at hW
  clear e2
  refine lv_aload_n S.1 S.2.1 dX7_odds_5 rfl (lv_at hl 0 rfl) ?_
  refine lv_iload_n S.1 S.2.1 dX7_odds_6 rfl (lv_at hl 1 rfl) ?_
  obtain ⟨v4, u3, h⟩ := bP_some h
  refine fl_doneI (fl_runV S hK hN (kX7_isWork l hJ p1 M1 v4 u3) (cwV 1 S.2.2.2.2 (gV q_386 q_387 q_388 q_291 q_385) rfl rfl rfl (by decide +kernel) ⟨Nat.le_of_ble_eq_true rfl, Nat.le_of_ble_eq_true rfl⟩) (ci := 7) rfl lM_0 sM_0 rfl hl.1 rfl (Nat.le_of_ble_eq_true rfl) dX7_odds_7 ⟨Nat.zero_le _, Nat.zero_le _⟩ hW) hA hW.2 (fun H locs hW => ?_)
  refine lv_if_eq (tgt := 22) S.1 S.2.1 dX7_odds_10 (by decide) (fun c5 => ?_) (fun c5 => ?_)
  · replace h := (if_pos c5).symm.trans h
    refine lv_iconst (v := (-1 : Int32)) S.1 S.2.1 dX7_odds_22 (by decide) ?_
    obtain ⟨rfl, rfl⟩ := s2 h
    exact fl_iret S.1 S.2.1 hr hlocks hW dX7_odds_23
  · replace h := (if_neg c5).symm.trans h
    refine lv_iload_n S.1 S.2.1 dX7_odds_13 rfl (lv_at hl 2 rfl) ?_
    refine lv_iconst (v := (0 : Int32)) S.1 S.2.1 dX7_odds_14 (by decide) ?_
    refine lv_iconst (v := (1 : Int32)) S.1 S.2.1 dX7_odds_15 (by decide) ?_
    obtain ⟨v7, u6, h⟩ := bP_some h
    refine fl_doneP (fl_runS S (kX7_in l p2 (0 : Int32) (1 : Int32) v7 u6) (va_cwS 3 S.2.2.2.2 (gS q_289 q_290 q_291 q_288) rfl rfl rfl (by decide +kernel) ⟨Nat.le_of_ble_eq_true rfl, Nat.le_of_ble_eq_true rfl⟩) rfl hl.1 rfl (Nat.le_of_ble_eq_true rfl) dX7_odds_16 ⟨Nat.zero_le _, Nat.zero_le _⟩) hW (fun H locs hW => ?_)
    refine lv_if_ne (tgt := 24) S.1 S.2.1 dX7_odds_19 (by decide) (fun c8 => ?_) (fun c8 => ?_)
    · replace h := (if_neg c8).symm.trans h
      refine lv_aload_n S.1 S.2.1 dX7_odds_24 rfl (lv_at hl 0 rfl) ?_
      refine fl_get S hK iX7 rfl lM_0 sM_0 10 (by decide) (hq _ q_319) (fun _ h9 => h9) (fvs_R rfl rfl) hW dX7_odds_25 ?_
      refine lv_iconst (v := (1 : Int32)) S.1 S.2.1 dX7_odds_28 (by decide) ?_
      refine fl_iald S hK lM_2 sM_2 (vp_dec (i := (1 : Int32)) (n := 8) (by decide)) hW dX7_odds_29 ?_
      refine lv_aload_n S.1 S.2.1 dX7_odds_30 rfl (lv_at hl 0 rfl) ?_
      refine fl_get S hK iX7 rfl lM_0 sM_0 14 (by decide) (hq _ q_327) (fun _ h9 => h9) (fvs_R rfl rfl) hW dX7_odds_31 ?_
      refine lv_bipush (v := (13 : Int32)) S.1 S.2.1 dX7_odds_34 (by decide) ?_
      refine fl_iald S hK lM_6 sM_6 (vp_dec (i := (13 : Int32)) (n := 21) (by decide)) hW dX7_odds_36 ?_
      obtain ⟨v10, u9, h⟩ := bP_some h
      refine fl_doneP (fl_runS S (kX7_ones l (M1.1 6 ((13 : Int32)).toNatClampNeg) v10 u9) (va_cwS 1 S.2.2.2.2 (gS q_351 q_352 q_291 q_350) rfl rfl rfl (by decide +kernel) ⟨Nat.le_of_ble_eq_true rfl, Nat.le_of_ble_eq_true rfl⟩) rfl hl.1 rfl (Nat.le_of_ble_eq_true rfl) dX7_odds_37 ⟨Nat.zero_le _, Nat.zero_le _⟩) hW (fun H locs hW => ?_)
      refine lv_isub S.1 S.2.1 dX7_odds_40 ?_
      refine lv_istore_n (lv' := [(3, .int ((M1.1 2 ((1 : Int32)).toNatClampNeg) - v10)), (0, .ref (ad 0)), (1, .int p1), (2, .int p2)]) S.1 S.2.1 dX7_odds_41 rfl hl (by decide) rfl (fun ls hl => ?_)
      refine lv_iconst (v := (0 : Int32)) S.1 S.2.1 dX7_odds_42 (by decide) ?_
      refine lv_istore (lv' := [(4, .int (0 : Int32)), (3, .int ((M1.1 2 ((1 : Int32)).toNatClampNeg) - v10)), (0, .ref (ad 0)), (1, .int p1), (2, .int p2)]) S.1 S.2.1 dX7_odds_43 hl (by decide) rfl (fun ls hl => ?_)
      refine lv_iconst (v := (0 : Int32)) S.1 S.2.1 dX7_odds_45 (by decide) ?_
      refine lv_istore (lv' := [(5, .int (0 : Int32)), (4, .int (0 : Int32)), (3, .int ((M1.1 2 ((1 : Int32)).toNatClampNeg) - v10)), (0, .ref (ad 0)), (1, .int p1), (2, .int p2)]) S.1 S.2.1 dX7_odds_46 hl (by decide) rfl (fun ls hl => ?_)
      have L48 : ∀ (n : Nat) (x4 : Int32) (x5 : Int32) (w11 : Int32) (w12 : Int32), fX7_odds_L48 p1 M1 n x4 x5 = some (w11, w12) → ∀ (H : Heap) (locs : List Loc) (ls : Array Slot), lv_has ls 8 [(0, .ref (ad 0)), (1, .int p1), (2, .int p2), (3, .int ((M1.1 2 ((1 : Int32)).toNatClampNeg) - v10)), (4, .int x4), (5, .int x5)] → WSt D cy ad kdV shM rfM 15 (AV ad 15) M1 s.heap H locs → (∀ (H : Heap) (locs : List Loc) (ls : Array Slot), lv_has ls 8 [(0, .ref (ad 0)), (1, .int p1), (2, .int p2), (3, .int ((M1.1 2 ((1 : Int32)).toNatClampNeg) - v10)), (4, .int w11), (5, .int w12)] → WSt D cy ad kdV shM rfM 15 (AV ad 15) M1 s.heap H locs → W p l e (headSpec vX7_odds ({ frames := 3, cells := 0, slots := 0, locals := 66 } : Room)).room s m ([.ref (ad 0), .int p1, .int p2] : List Value).toArray below meth c H locs 0 0 (MQ below (QcI r D cy ad kdV shM rfM 15 M') ([.ref (ad 0), .int p1, .int p2] : List Value).toArray s 0 0 (AV ad 15)) (F0 m 114 ls [])) → W p l e (headSpec vX7_odds ({ frames := 3, cells := 0, slots := 0, locals := 66 } : Room)).room s m ([.ref (ad 0), .int p1, .int p2] : List Value).toArray below meth c H locs 0 0 (MQ below (QcI r D cy ad kdV shM rfM 15 M') ([.ref (ad 0), .int p1, .int p2] : List Value).toArray s 0 0 (AV ad 15)) (F0 m 48 ls []) := by
        intro n
        induction n with
        | zero => intro x4 x5 w11 w12 h; cases h
        | succ n ih =>
          intro x4 x5 w11 w12 h H locs ls hl hW K
          rw [fX7_odds_L48] at h
          refine lv_iload S.1 S.2.1 dX7_odds_48 (lv_at hl 5 rfl) ?_
          refine lv_aload_n S.1 S.2.1 dX7_odds_50 rfl (lv_at hl 0 rfl) ?_
          refine fl_get S hK iX7 rfl lM_0 sM_0 10 (by decide) (hq _ q_319) (fun _ h9 => h9) (fvs_R rfl rfl) hW dX7_odds_51 ?_
          refine lv_iconst (v := (0 : Int32)) S.1 S.2.1 dX7_odds_54 (by decide) ?_
          refine fl_iald S hK lM_2 sM_2 (vp_dec (i := (0 : Int32)) (n := 8) (by decide)) hW dX7_odds_55 ?_
          refine lv_icmp_ge (tgt := 114) S.1 S.2.1 dX7_odds_56 (by decide) (fun c13 => ?_) (fun c13 => ?_)
          · replace h := (if_pos c13).symm.trans h
            obtain ⟨rfl, rfl⟩ := s2 h
            exact K _ _ _ hl hW
          · replace h := (if_neg c13).symm.trans h
            refine lv_aload_n S.1 S.2.1 dX7_odds_59 rfl (lv_at hl 0 rfl) ?_
            refine lv_iload S.1 S.2.1 dX7_odds_60 (lv_at hl 5 rfl) ?_
            obtain ⟨v15, u14, h⟩ := bP_some h
            refine fl_doneI (fl_runV S hK hN (kX7_ageOf l hJ x5 M1 v15 u14) (cwV 1 S.2.2.2.2 (gV q_378 q_379 q_380 q_291 q_377) rfl rfl rfl (by decide +kernel) ⟨Nat.le_of_ble_eq_true rfl, Nat.le_of_ble_eq_true rfl⟩) (ci := 7) rfl lM_0 sM_0 rfl hl.1 rfl (Nat.le_of_ble_eq_true rfl) dX7_odds_62 ⟨Nat.zero_le _, Nat.zero_le _⟩ hW) hA hW.2 (fun H locs hW => ?_)
            refine lv_istore (lv' := [(6, .int v15), (0, .ref (ad 0)), (1, .int p1), (2, .int p2), (3, .int ((M1.1 2 ((1 : Int32)).toNatClampNeg) - v10)), (4, .int x4), (5, .int x5)]) S.1 S.2.1 dX7_odds_65 hl (by decide) rfl (fun ls hl => ?_)
            refine lv_iload S.1 S.2.1 dX7_odds_67 (lv_at hl 5 rfl) ?_
            refine lv_iload S.1 S.2.1 dX7_odds_69 (lv_at hl 0 rfl) ?_
            refine lv_aload_n S.1 S.2.1 dX7_odds_71 rfl (lv_at hl 1 rfl) ?_
            refine fl_get S hK iX7 rfl lM_0 sM_0 10 (by decide) (hq _ q_319) (fun _ h9 => h9) (fvs_R rfl rfl) hW dX7_odds_72 ?_
            refine lv_iconst (v := (3 : Int32)) S.1 S.2.1 dX7_odds_75 (by decide) ?_
            refine fl_iald S hK lM_2 sM_2 (vp_dec (i := (3 : Int32)) (n := 8) (by decide)) hW dX7_odds_76 ?_
            refine lv_icmp_ge (tgt := 104) S.1 S.2.1 dX7_odds_77 (by decide) (fun c16 => ?_) (fun c16 => ?_)
            · replace h := (if_pos c16).symm.trans h
              refine lv_iconst (v := (1 : Int32)) S.1 S.2.1 dX7_odds_104 (by decide) ?_
              refine lv_iadd S.1 S.2.1 dX7_odds_105 ?_
              refine lv_istore (lv' := [(4, .int (x4 + (1 : Int32))), (6, .int v15), (0, .ref (ad 0)), (1, .int p1), (2, .int p2), (3, .int ((M1.1 2 ((1 : Int32)).toNatClampNeg) - v10)), (5, .int x5)]) S.1 S.2.1 dX7_odds_106 hl (by decide) rfl (fun ls hl => ?_)
              refine lv_iinc (v := x5 + (1 : Int32)) (lv' := [(5, .int (x5 + (1 : Int32))), (4, .int (x4 + (1 : Int32))), (6, .int v15), (0, .ref (ad 0)), (1, .int p1), (2, .int p2), (3, .int ((M1.1 2 ((1 : Int32)).toNatClampNeg) - v10))]) S.1 S.2.1 dX7_odds_108 hl (k := 6) rfl rfl (by decide) rfl (fun ls hl => ?_)
              refine lv_goto (tgt := 48) S.1 S.2.1 dX7_odds_111 (by decide) ?_
              exact ih _ _ _ _ h _ _ _ (lv_sub hl [3, 4, 5, 6, 1, 0] rfl) hW K
            · replace h := (if_neg c16).symm.trans h
              refine lv_iload S.1 S.2.1 dX7_odds_80 (lv_at hl 0 rfl) ?_
              refine lv_aload_n S.1 S.2.1 dX7_odds_82 rfl (lv_at hl 1 rfl) ?_
              refine fl_get S hK iX7 rfl lM_0 sM_0 12 (by decide) (hq _ q_325) (fun _ h9 => h9) (fvs_R rfl rfl) hW dX7_odds_83 ?_
              refine lv_iload_n S.1 S.2.1 dX7_odds_86 rfl (lv_at hl 2 rfl) ?_
              obtain ⟨g17, h⟩ := ix_some h
              refine fl_iald S hK lM_4 sM_4 g17 hW dX7_odds_87 ?_
              refine lv_aload_n S.1 S.2.1 dX7_odds_88 rfl (lv_at hl 1 rfl) ?_
              refine fl_get S hK iX7 rfl lM_0 sM_0 13 (by decide) (hq _ q_326) (fun _ h9 => h9) (fvs_R rfl rfl) hW dX7_odds_89 ?_
              refine lv_iload_n S.1 S.2.1 dX7_odds_92 rfl (lv_at hl 2 rfl) ?_
              obtain ⟨g18, h⟩ := ix_some h
              refine fl_iald S hK lM_5 sM_5 g18 hW dX7_odds_93 ?_
              obtain ⟨v20, u19, h⟩ := bP_some h
              refine fl_doneP (fl_runS S (kX7_in l v15 (M1.1 4 (p1).toNatClampNeg) (M1.1 5 (p1).toNatClampNeg) v20 u19) (va_cwS 3 S.2.2.2.2 (gS q_289 q_290 q_291 q_288) rfl rfl rfl (by decide +kernel) ⟨Nat.le_of_ble_eq_true rfl, Nat.le_of_ble_eq_true rfl⟩) rfl hl.1 rfl (Nat.le_of_ble_eq_true rfl) dX7_odds_94 ⟨Nat.zero_le _, Nat.zero_le _⟩) hW (fun H locs hW => ?_)
              refine lv_if_eq (tgt := 104) S.1 S.2.1 dX7_odds_97 (by decide) (fun c21 => ?_) (fun c21 => ?_)
              · replace h := (if_pos c21).symm.trans h
                refine lv_iconst (v := (1 : Int32)) S.1 S.2.1 dX7_odds_104 (by decide) ?_
                refine lv_iadd S.1 S.2.1 dX7_odds_105 ?_
                refine lv_istore (lv' := [(4, .int (x4 + (1 : Int32))), (6, .int v15), (0, .ref (ad 0)), (1, .int p1), (2, .int p2), (3, .int ((M1.1 2 ((1 : Int32)).toNatClampNeg) - v10)), (5, .int x5)]) S.1 S.2.1 dX7_odds_106 hl (by decide) rfl (fun ls hl => ?_)
                refine lv_iinc (v := x5 + (1 : Int32)) (lv' := [(5, .int (x5 + (1 : Int32))), (4, .int (x4 + (1 : Int32))), (6, .int v15), (0, .ref (ad 0)), (1, .int p1), (2, .int p2), (3, .int ((M1.1 2 ((1 : Int32)).toNatClampNeg) - v10))]) S.1 S.2.1 dX7_odds_108 hl (k := 6) rfl rfl (by decide) rfl (fun ls hl => ?_)
                refine lv_goto (tgt := 48) S.1 S.2.1 dX7_odds_111 (by decide) ?_
                exact ih _ _ _ _ h _ _ _ (lv_sub hl [3, 4, 5, 6, 1, 0] rfl) hW K
              · replace h := (if_neg c21).symm.trans h
                refine lv_iconst (v := (0 : Int32)) S.1 S.2.1 dX7_odds_100 (by decide) ?_
                refine lv_goto (tgt := 105) S.1 S.2.1 dX7_odds_101 (by decide) ?_
                refine lv_iadd S.1 S.2.1 dX7_odds_105 ?_
                refine lv_istore (lv' := [(4, .int (x4 + (0 : Int32))), (6, .int v15), (0, .ref (ad 0)), (1, .int p1), (2, .int p2), (3, .int ((M1.1 2 ((1 : Int32)).toNatClampNeg) - v10)), (5, .int x5)]) S.1 S.2.1 dX7_odds_106 hl (by decide) rfl (fun ls hl => ?_)
                refine lv_iinc (v := x5 + (1 : Int32)) (lv' := [(5, .int (x5 + (1 : Int32))), (4, .int (x4 + (0 : Int32))), (6, .int v15), (0, .ref (ad 0)), (1, .int p1), (2, .int p2), (3, .int ((M1.1 2 ((1 : Int32)).toNatClampNeg) - v10))]) S.1 S.2.1 dX7_odds_108 hl (k := 6) rfl rfl (by decide) rfl (fun ls hl => ?_)
                refine lv_goto (tgt := 48) S.1 S.2.1 dX7_odds_111 (by decide) ?_
                exact ih _ _ _ _ h _ _ _ (lv_sub hl [3, 4, 5, 6, 1, 0] rfl) hW K
      obtain ⟨w11, w12, u39, h⟩ := b2_some h
      refine L48 50000 _ _ _ _ u39 _ _ _ (lv_sub hl [3, 4, 5, 2, 1, 0] rfl) hW (fun H locs ls hl hW => ?_)
      clear L48
      refine lv_aload_n S.1 S.2.1 dX7_odds_114 rfl (lv_at hl 0 rfl) ?_
      refine fl_get S hK iX7 rfl lM_0 sM_0 10 (by decide) (hq _ q_319) (fun _ h9 => h9) (fvs_R rfl rfl) hW dX7_odds_115 ?_
      refine lv_iconst (v := (0 : Int32)) S.1 S.2.1 dX7_odds_118 (by decide) ?_
      refine fl_iald S hK lM_2 sM_2 (vp_dec (i := (0 : Int32)) (n := 8) (by decide)) hW dX7_odds_119 ?_
      obtain ⟨j23, u38, h⟩ := bP_some h
      have J24 : ∀ (H : Heap) (locs : List Loc) (ls : Array Slot), lv_has ls 8 [(0, .ref (ad 0)), (1, .int p1), (2, .int p2), (3, .int ((M1.1 2 ((1 : Int32)).toNatClampNeg) - v10)), (4, .int w11), (5, .int w12)] → WSt D cy ad kdV shM rfM 15 (AV ad 15) M1 s.heap H locs → W p l e (headSpec vX7_odds ({ frames := 3, cells := 0, slots := 0, locals := 66 } : Room)).room s m ([.ref (ad 0), .int p1, .int p2] : List Value).toArray below meth c H locs 0 0 (MQ below (QcI r D cy ad kdV shM rfM 15 M') ([.ref (ad 0), .int p1, .int p2] : List Value).toArray s 0 0 (AV ad 15)) (F0 m 137 ls [.int j23]) := by
        intro H locs ls hl hW
        refine lv_istore (lv' := [(5, .int j23), (0, .ref (ad 0)), (1, .int p1), (2, .int p2), (3, .int ((M1.1 2 ((1 : Int32)).toNatClampNeg) - v10)), (4, .int w11)]) S.1 S.2.1 dX7_odds_137 hl (by decide) rfl (fun ls hl => ?_)
        refine lv_aload_n S.1 S.2.1 dX7_odds_139 rfl (lv_at hl 1 rfl) ?_
        refine fl_get S hK iX7 rfl lM_0 sM_0 10 (by decide) (hq _ q_319) (fun _ h9 => h9) (fvs_R rfl rfl) hW dX7_odds_140 ?_
        refine lv_iconst (v := (0 : Int32)) S.1 S.2.1 dX7_odds_143 (by decide) ?_
        refine fl_iald S hK lM_2 sM_2 (vp_dec (i := (0 : Int32)) (n := 8) (by decide)) hW dX7_odds_144 ?_
        obtain ⟨j28, u37, h⟩ := bP_some h
        have J29 : ∀ (H : Heap) (locs : List Loc) (ls : Array Slot), lv_has ls 8 [(0, .ref (ad 0)), (1, .int p1), (2, .int p2), (3, .int ((M1.1 2 ((1 : Int32)).toNatClampNeg) - v10)), (4, .int w11), (5, .int j23)] → WSt D cy ad kdV shM rfM 15 (AV ad 15) M1 s.heap H locs → W p l e (headSpec vX7_odds ({ frames := 3, cells := 0, slots := 0, locals := 66 } : Room)).room s m ([.ref (ad 0), .int p1, .int p2] : List Value).toArray below meth c H locs 0 0 (MQ below (QcI r D cy ad kdV shM rfM 15 M') ([.ref (ad 0), .int p1, .int p2] : List Value).toArray s 0 0 (AV ad 15)) (F0 m 161 ls [.int j28]) := by
          intro H locs ls hl hW
          refine lv_istore (lv' := [(6, .int j28), (0, .ref (ad 0)), (1, .int p1), (2, .int p2), (3, .int ((M1.1 2 ((1 : Int32)).toNatClampNeg) - v10)), (4, .int w11), (5, .int j23)]) S.1 S.2.1 dX7_odds_161 hl (by decide) rfl (fun ls hl => ?_)
          refine lv_iload S.1 S.2.1 dX7_odds_163 (lv_at hl 0 rfl) ?_
          refine lv_iload S.1 S.2.1 dX7_odds_165 (lv_at hl 6 rfl) ?_
          obtain ⟨v33, u32, h⟩ := bP_some h
          refine fl_doneP (fl_runS S (kX7_gcd l j28 j23 v33 u32) (va_cwS 2 S.2.2.2.2 (gS q_425 q_426 q_291 q_424) rfl rfl rfl (by decide +kernel) ⟨Nat.le_of_ble_eq_true rfl, Nat.le_of_ble_eq_true rfl⟩) rfl hl.1 rfl (Nat.le_of_ble_eq_true rfl) dX7_odds_167 ⟨Nat.zero_le _, Nat.zero_le _⟩) hW (fun H locs hW => ?_)
          refine lv_istore (lv' := [(7, .int v33), (6, .int j28), (0, .ref (ad 0)), (1, .int p1), (2, .int p2), (3, .int ((M1.1 2 ((1 : Int32)).toNatClampNeg) - v10)), (4, .int w11), (5, .int j23)]) S.1 S.2.1 dX7_odds_170 hl (by decide) rfl (fun ls hl => ?_)
          refine lv_iload_n S.1 S.2.1 dX7_odds_172 rfl (lv_at hl 4 rfl) ?_
          refine lv_if_ne (tgt := 184) S.1 S.2.1 dX7_odds_173 (by decide) (fun c34 => ?_) (fun c34 => ?_)
          · replace h := (if_neg c34).symm.trans h
            refine lv_iload S.1 S.2.1 dX7_odds_184 (lv_at hl 7 rfl) ?_
            refine lv_iload S.1 S.2.1 dX7_odds_186 (lv_at hl 0 rfl) ?_
            obtain ⟨g36, h⟩ := nz_some h
            refine lv_idiv S.1 S.2.1 dX7_odds_188 g36 ?_
            obtain ⟨rfl, rfl⟩ := s2 h
            exact fl_iret S.1 S.2.1 hr hlocks hW dX7_odds_189
          · replace h := (if_pos c34).symm.trans h
            refine lv_iload S.1 S.2.1 dX7_odds_176 (lv_at hl 1 rfl) ?_
            refine lv_iload S.1 S.2.1 dX7_odds_178 (lv_at hl 0 rfl) ?_
            obtain ⟨g35, h⟩ := nz_some h
            refine lv_idiv S.1 S.2.1 dX7_odds_180 g35 ?_
            refine lv_goto (tgt := 189) S.1 S.2.1 dX7_odds_181 (by decide) ?_
            obtain ⟨rfl, rfl⟩ := s2 h
            exact fl_iret S.1 S.2.1 hr hlocks hW dX7_odds_189
        clear h
        have h := u37
        clear u37
        refine lv_if_ne (tgt := 152) S.1 S.2.1 dX7_odds_145 (by decide) (fun c27 => ?_) (fun c27 => ?_)
        · replace h := (if_neg c27).symm.trans h
          refine lv_iload S.1 S.2.1 dX7_odds_152 (lv_at hl 0 rfl) ?_
          refine lv_iload S.1 S.2.1 dX7_odds_154 (lv_at hl 5 rfl) ?_
          refine lv_iload_n S.1 S.2.1 dX7_odds_156 rfl (lv_at hl 4 rfl) ?_
          obtain ⟨v31, u30, h⟩ := bP_some h
          refine fl_doneP (fl_runS S (kX7_power l w11 ((M1.1 2 ((1 : Int32)).toNatClampNeg) - v10) v31 u30) (va_cwS 2 S.2.2.2.2 (gS q_422 q_423 q_291 q_421) rfl rfl rfl (by decide +kernel) ⟨Nat.le_of_ble_eq_true rfl, Nat.le_of_ble_eq_true rfl⟩) rfl hl.1 rfl (Nat.le_of_ble_eq_true rfl) dX7_odds_157 ⟨Nat.zero_le _, Nat.zero_le _⟩) hW (fun H locs hW => ?_)
          refine lv_isub S.1 S.2.1 dX7_odds_160 ?_
          obtain rfl := s1 h
          exact J29 _ _ _ (lv_sub hl [1, 2, 3, 4, 5, 0] rfl) hW
        · replace h := (if_pos c27).symm.trans h
          refine lv_iconst (v := (0 : Int32)) S.1 S.2.1 dX7_odds_148 (by decide) ?_
          refine lv_goto (tgt := 161) S.1 S.2.1 dX7_odds_149 (by decide) ?_
          obtain rfl := s1 h
          exact J29 _ _ _ (lv_sub hl [1, 2, 3, 4, 5, 0] rfl) hW
      clear h
      have h := u38
      clear u38
      refine lv_if_ne (tgt := 127) S.1 S.2.1 dX7_odds_120 (by decide) (fun c22 => ?_) (fun c22 => ?_)
      · replace h := (if_neg c22).symm.trans h
        refine lv_aload_n S.1 S.2.1 dX7_odds_127 rfl (lv_at hl 0 rfl) ?_
        refine fl_get S hK iX7 rfl lM_0 sM_0 10 (by decide) (hq _ q_319) (fun _ h9 => h9) (fvs_R rfl rfl) hW dX7_odds_128 ?_
        refine lv_iconst (v := (0 : Int32)) S.1 S.2.1 dX7_odds_131 (by decide) ?_
        refine fl_iald S hK lM_2 sM_2 (vp_dec (i := (0 : Int32)) (n := 8) (by decide)) hW dX7_odds_132 ?_
        refine lv_iload_n S.1 S.2.1 dX7_odds_133 rfl (lv_at hl 3 rfl) ?_
        obtain ⟨v26, u25, h⟩ := bP_some h
        refine fl_doneP (fl_runS S (kX7_power l (M1.1 2 ((0 : Int32)).toNatClampNeg) ((M1.1 2 ((1 : Int32)).toNatClampNeg) - v10) v26 u25) (va_cwS 2 S.2.2.2.2 (gS q_422 q_423 q_291 q_421) rfl rfl rfl (by decide +kernel) ⟨Nat.le_of_ble_eq_true rfl, Nat.le_of_ble_eq_true rfl⟩) rfl hl.1 rfl (Nat.le_of_ble_eq_true rfl) dX7_odds_134 ⟨Nat.zero_le _, Nat.zero_le _⟩) hW (fun H locs hW => ?_)
        obtain rfl := s1 h
        exact J24 _ _ _ hl hW
      · replace h := (if_pos c22).symm.trans h
        refine lv_iconst (v := (1 : Int32)) S.1 S.2.1 dX7_odds_123 (by decide) ?_
        refine lv_goto (tgt := 137) S.1 S.2.1 dX7_odds_124 (by decide) ?_
        obtain rfl := s1 h
        exact J24 _ _ _ hl hW
    · replace h := (if_pos c8).symm.trans h
      refine lv_iconst (v := (-1 : Int32)) S.1 S.2.1 dX7_odds_22 (by decide) ?_
      obtain ⟨rfl, rfl⟩ := s2 h
      exact fl_iret S.1 S.2.1 hr hlocks hW dX7_odds_23
def fX7_sees (p1 : Int32) (p2 : Int32) (M : Mm) : Option (Int32 × Mm) :=
  lt (wI M 0 0 (0 : Int32)) (fun (M1 : Mm) => bP (fX7_isWork p1 M1) (fun (v4 : Int32) => if v4 = 0 then (some ((-1 : Int32), M1)) else (bP (fX7_in p2 (0 : Int32) (1 : Int32)) (fun (v7 : Int32) => if v7 = 0 then (some ((-1 : Int32), M1)) else (if (M1.1 0 21) = (6 : Int32) then (some ((-3 : Int32), M1)) else (ix (M1.1 0 21) 6 (lt (wI M1 10 (M1.1 0 21).toNatClampNeg p1) (fun (M11 : Mm) => ix (M11.1 0 21) 6 (lt (wI M11 11 (M11.1 0 21).toNatClampNeg p2) (fun (M14 : Mm) => lt (wI M14 0 21 ((M14.1 0 21) + (1 : Int32))) (fun (M16 : Mm) => some (M16.1 0 21, M16))))))))))))
set_option maxHeartbeats 4000000 in
set_option maxRecDepth 100000 in
theorem kX7_sees (l : Launch) {D : va_G} {cy : Nat → ClassId} {ad : Nat → Nat} (hJ : Inj ad 15)  (p1 : Int32) (p2 : Int32) (M : Mm) (r : Int32) (M' : Mm) (h : fX7_sees p1 p2 M = some (r, M')) : Met l yX7_sees vX7_sees ({ frames := 2, cells := 0, slots := 0, locals := 43 } : Room) (PcF [.ref (ad 0), .int p1, .int p2] D cy ad kdV shM rfM 15 M) (QcI r D cy ad kdV shM rfM 15 M') 0 0 (AV ad 15) := by
  refine Met.ofW (cc := cX7_sees) (maxL := 3) (ret := (some .int)) (by decide) rfl ?_
  intro p e s m args below meth c s₁ B hml hv
  obtain ⟨rfl, hP, hK, hN⟩ := hv
  have hr := B.returns
  have hlocks := B.notSynchronized
  have S : CallFix p m c cX7_sees 3 s ([.ref (ad 0), .int p1, .int p2] : List Value).toArray vX7_sees RX7 := ⟨B.exec, B.bytes, hml, findClass_of_methodNamed B.named, atoms_spec (ws := vX7_sees) B.pre⟩
  have hq : ∀ w ∈ GW, w.before ([.ref (ad 0), .int p1, .int p2] : List Value).toArray s = true := fun w h => S.2.2.2.2 w (List.mem_cons_of_mem _ h)
  have hA : ∀ k, k < 15 → AV ad 15 (ad k) := fun k hk => ⟨k, hk, rfl⟩
  have hW : WSt D cy ad kdV shM rfM 15 (AV ad 15) M s.heap s.heap [] := ⟨hP, va_S.rf⟩
  clear hP
  have iX7 : ∀ w ∈ wsX70, w ∈ vX7_sees := fun w h => List.mem_cons_of_mem _ (inX7 w h)
  have hl := lv_entry ([.ref (ad 0), .int p1, .int p2]) (n := 3) (Nat.le_of_ble_eq_true rfl)
  rw [lg_entry_eq]
  generalize (lg_sl ([.ref (ad 0), .int p1, .int p2]) ++ List.replicate (3 - (lg_sl ([.ref (ad 0), .int p1, .int p2])).length) Slot.unset).toArray = ls at hl ⊢
  have hl : lv_has ls 3 [(0, .ref (ad 0)), (1, .int p1), (2, .int p2)] := hl
  rw [fX7_sees] at h
  refine lv_aload_n S.1 S.2.1 dX7_sees_0 rfl (lv_at hl 0 rfl) ?_
  refine lv_iconst (v := (0 : Int32)) S.1 S.2.1 dX7_sees_1 (by decide) ?_
  refine fl_put S hK hJ hA tyX7 tyX7_ok nmX7 iX7 rfl lM_0 sM_0 0 (by decide) (hq _ q_287) (fun _ h9 => h9) rfl (ty := .int) rfl rfl rfl (wI M 0 0 (0 : Int32)) (by decide) (fvs_setI _ _ _ _ _ _ _ rfl) (fun j _ hj => cof_wI_ne hj) hW dX7_sees_2 (fun H locs hW => ?_)
  obtain ⟨M1, e2, h⟩ := lt_some h
  rw [e2] at hW
  clear e2
  refine lv_aload_n S.1 S.2.1 dX7_sees_5 rfl (lv_at hl 0 rfl) ?_
  refine lv_iload_n S.1 S.2.1 dX7_sees_6 rfl (lv_at hl 1 rfl) ?_
  obtain ⟨v4, u3, h⟩ := bP_some h
  refine fl_doneI (fl_runV S hK hN (kX7_isWork l hJ p1 M1 v4 u3) (cwV 1 S.2.2.2.2 (gV q_386 q_387 q_388 q_291 q_385) rfl rfl rfl (by decide +kernel) ⟨Nat.le_of_ble_eq_true rfl, Nat.le_of_ble_eq_true rfl⟩) (ci := 7) rfl lM_0 sM_0 rfl hl.1 rfl (Nat.le_of_ble_eq_true rfl) dX7_sees_7 ⟨Nat.zero_le _, Nat.zero_le _⟩ hW) hA hW.2 (fun H locs hW => ?_)
  refine lv_if_eq (tgt := 22) S.1 S.2.1 dX7_sees_10 (by decide) (fun c5 => ?_) (fun c5 => ?_)
  · replace h := (if_pos c5).symm.trans h
    refine lv_iconst (v := (-1 : Int32)) S.1 S.2.1 dX7_sees_22 (by decide) ?_
    obtain ⟨rfl, rfl⟩ := s2 h
    exact fl_iret S.1 S.2.1 hr hlocks hW dX7_sees_23
  · replace h := (if_neg c5).symm.trans h
    refine lv_iload_n S.1 S.2.1 dX7_sees_13 rfl (lv_at hl 2 rfl) ?_
    refine lv_iconst (v := (0 : Int32)) S.1 S.2.1 dX7_sees_14 (by decide) ?_
    refine lv_iconst (v := (1 : Int32)) S.1 S.2.1 dX7_sees_15 (by decide) ?_
    obtain ⟨v7, u6, h⟩ := bP_some h
    refine fl_doneP (fl_runS S (kX7_in l p2 (0 : Int32) (1 : Int32) v7 u6) (va_cwS 3 S.2.2.2.2 (gS q_289 q_290 q_291 q_288) rfl rfl rfl (by decide +kernel) ⟨Nat.le_of_ble_eq_true rfl, Nat.le_of_ble_eq_true rfl⟩) rfl hl.1 rfl (Nat.le_of_ble_eq_true rfl) dX7_sees_16 ⟨Nat.zero_le _, Nat.zero_le _⟩) hW (fun H locs hW => ?_)
    refine lv_if_ne (tgt := 24) S.1 S.2.1 dX7_sees_19 (by decide) (fun c8 => ?_) (fun c8 => ?_)
    · replace h := (if_neg c8).symm.trans h
      refine lv_aload_n S.1 S.2.1 dX7_sees_24 rfl (lv_at hl 0 rfl) ?_
      refine fl_get S hK iX7 rfl lM_0 sM_0 21 (by decide) (hq _ q_328) (fun _ h9 => h9) (fvs_I rfl) hW dX7_sees_25 ?_
      refine lv_bipush (v := (6 : Int32)) S.1 S.2.1 dX7_sees_28 (by decide) ?_
      refine lv_icmp_ne (tgt := 36) S.1 S.2.1 dX7_sees_30 (by decide) (fun c9 => ?_) (fun c9 => ?_)
      · replace h := (if_neg c9).symm.trans h
        refine lv_aload_n S.1 S.2.1 dX7_sees_36 rfl (lv_at hl 0 rfl) ?_
        refine fl_get S hK iX7 rfl lM_0 sM_0 19 (by decide) (hq _ q_427) (fun _ h9 => h9) (fvs_R rfl rfl) hW dX7_sees_37 ?_
        refine lv_aload_n S.1 S.2.1 dX7_sees_40 rfl (lv_at hl 0 rfl) ?_
        refine fl_get S hK iX7 rfl lM_0 sM_0 21 (by decide) (hq _ q_328) (fun _ h9 => h9) (fvs_I rfl) hW dX7_sees_41 ?_
        refine lv_iload_n S.1 S.2.1 dX7_sees_44 rfl (lv_at hl 1 rfl) ?_
        obtain ⟨g10, h⟩ := ix_some h
        refine fl_iast S hK hJ hA lM_10 sM_10 g10 hW dX7_sees_45 (fun H locs hW => ?_)
        obtain ⟨M11, e12, h⟩ := lt_some h
        rw [e12] at hW
        clear e12
        refine lv_aload_n S.1 S.2.1 dX7_sees_46 rfl (lv_at hl 0 rfl) ?_
        refine fl_get S hK iX7 rfl lM_0 sM_0 20 (by decide) (hq _ q_428) (fun _ h9 => h9) (fvs_R rfl rfl) hW dX7_sees_47 ?_
        refine lv_aload_n S.1 S.2.1 dX7_sees_50 rfl (lv_at hl 0 rfl) ?_
        refine fl_get S hK iX7 rfl lM_0 sM_0 21 (by decide) (hq _ q_328) (fun _ h9 => h9) (fvs_I rfl) hW dX7_sees_51 ?_
        refine lv_iload_n S.1 S.2.1 dX7_sees_54 rfl (lv_at hl 2 rfl) ?_
        obtain ⟨g13, h⟩ := ix_some h
        refine fl_iast S hK hJ hA lM_11 sM_11 g13 hW dX7_sees_55 (fun H locs hW => ?_)
        obtain ⟨M14, e15, h⟩ := lt_some h
        rw [e15] at hW
        clear e15
        refine lv_aload_n S.1 S.2.1 dX7_sees_56 rfl (lv_at hl 0 rfl) ?_
        refine lv_dup S.1 S.2.1 dX7_sees_57 rfl ?_
        refine fl_get S hK iX7 rfl lM_0 sM_0 21 (by decide) (hq _ q_328) (fun _ h9 => h9) (fvs_I rfl) hW dX7_sees_58 ?_
        refine lv_iconst (v := (1 : Int32)) S.1 S.2.1 dX7_sees_61 (by decide) ?_
        refine lv_iadd S.1 S.2.1 dX7_sees_62 ?_
        refine fl_put S hK hJ hA tyX7 tyX7_ok nmX7 iX7 rfl lM_0 sM_0 21 (by decide) (hq _ q_328) (fun _ h9 => h9) rfl (ty := .int) rfl rfl rfl (wI M14 0 21 ((M14.1 0 21) + (1 : Int32))) (by decide) (fvs_setI _ _ _ _ _ _ _ rfl) (fun j _ hj => cof_wI_ne hj) hW dX7_sees_63 (fun H locs hW => ?_)
        obtain ⟨M16, e17, h⟩ := lt_some h
        rw [e17] at hW
        clear e17
        refine lv_aload_n S.1 S.2.1 dX7_sees_66 rfl (lv_at hl 0 rfl) ?_
        refine fl_get S hK iX7 rfl lM_0 sM_0 21 (by decide) (hq _ q_328) (fun _ h9 => h9) (fvs_I rfl) hW dX7_sees_67 ?_
        obtain ⟨rfl, rfl⟩ := s2 h
        exact fl_iret S.1 S.2.1 hr hlocks hW dX7_sees_70
      · replace h := (if_pos c9).symm.trans h
        refine lv_bipush (v := (-3 : Int32)) S.1 S.2.1 dX7_sees_33 (by decide) ?_
        obtain ⟨rfl, rfl⟩ := s2 h
        exact fl_iret S.1 S.2.1 hr hlocks hW dX7_sees_35
    · replace h := (if_pos c8).symm.trans h
      refine lv_iconst (v := (-1 : Int32)) S.1 S.2.1 dX7_sees_22 (by decide) ?_
      obtain ⟨rfl, rfl⟩ := s2 h
      exact fl_iret S.1 S.2.1 hr hlocks hW dX7_sees_23
def fX7_forget (M : Mm) : Option (Int32 × Mm) :=
  lt (wI M 0 0 (0 : Int32)) (fun (M1 : Mm) => lt (wI M1 0 21 (0 : Int32)) (fun (M3 : Mm) => some (M1.1 0 21, M3)))
set_option maxHeartbeats 4000000 in
set_option maxRecDepth 100000 in
theorem kX7_forget (l : Launch) {D : va_G} {cy : Nat → ClassId} {ad : Nat → Nat} (hJ : Inj ad 15)   (M : Mm) (r : Int32) (M' : Mm) (h : fX7_forget M = some (r, M')) : Met l yX7_forget vX7_forget ({ frames := 0, cells := 0, slots := 0, locals := 0 } : Room) (PcF [.ref (ad 0)] D cy ad kdV shM rfM 15 M) (QcI r D cy ad kdV shM rfM 15 M') 0 0 (AV ad 15) := by
  refine Met.ofW (cc := cX7_forget) (maxL := 2) (ret := (some .int)) (by decide) rfl ?_
  intro p e s m args below meth c s₁ B hml hv
  obtain ⟨rfl, hP, hK, hN⟩ := hv
  have hr := B.returns
  have hlocks := B.notSynchronized
  have S : CallFix p m c cX7_forget 2 s ([.ref (ad 0)] : List Value).toArray vX7_forget RX7 := ⟨B.exec, B.bytes, hml, findClass_of_methodNamed B.named, atoms_spec (ws := vX7_forget) B.pre⟩
  have hq : ∀ w ∈ GW, w.before ([.ref (ad 0)] : List Value).toArray s = true := fun w h => S.2.2.2.2 w (List.mem_cons_of_mem _ h)
  have hA : ∀ k, k < 15 → AV ad 15 (ad k) := fun k hk => ⟨k, hk, rfl⟩
  have hW : WSt D cy ad kdV shM rfM 15 (AV ad 15) M s.heap s.heap [] := ⟨hP, va_S.rf⟩
  clear hP
  have iX7 : ∀ w ∈ wsX70, w ∈ vX7_forget := fun w h => List.mem_cons_of_mem _ (inX7 w h)
  have hl := lv_entry ([.ref (ad 0)]) (n := 2) (Nat.le_of_ble_eq_true rfl)
  rw [lg_entry_eq]
  generalize (lg_sl ([.ref (ad 0)]) ++ List.replicate (2 - (lg_sl ([.ref (ad 0)])).length) Slot.unset).toArray = ls at hl ⊢
  have hl : lv_has ls 2 [(0, .ref (ad 0))] := hl
  rw [fX7_forget] at h
  refine lv_aload_n S.1 S.2.1 dX7_forget_0 rfl (lv_at hl 0 rfl) ?_
  refine lv_iconst (v := (0 : Int32)) S.1 S.2.1 dX7_forget_1 (by decide) ?_
  refine fl_put S hK hJ hA tyX7 tyX7_ok nmX7 iX7 rfl lM_0 sM_0 0 (by decide) (hq _ q_287) (fun _ h9 => h9) rfl (ty := .int) rfl rfl rfl (wI M 0 0 (0 : Int32)) (by decide) (fvs_setI _ _ _ _ _ _ _ rfl) (fun j _ hj => cof_wI_ne hj) hW dX7_forget_2 (fun H locs hW => ?_)
  obtain ⟨M1, e2, h⟩ := lt_some h
  rw [e2] at hW
  clear e2
  refine lv_aload_n S.1 S.2.1 dX7_forget_5 rfl (lv_at hl 0 rfl) ?_
  refine fl_get S hK iX7 rfl lM_0 sM_0 21 (by decide) (hq _ q_328) (fun _ h9 => h9) (fvs_I rfl) hW dX7_forget_6 ?_
  refine lv_istore_n (lv' := [(1, .int (M1.1 0 21)), (0, .ref (ad 0))]) S.1 S.2.1 dX7_forget_9 rfl hl (by decide) rfl (fun ls hl => ?_)
  refine lv_aload_n S.1 S.2.1 dX7_forget_10 rfl (lv_at hl 1 rfl) ?_
  refine lv_iconst (v := (0 : Int32)) S.1 S.2.1 dX7_forget_11 (by decide) ?_
  refine fl_put S hK hJ hA tyX7 tyX7_ok nmX7 iX7 rfl lM_0 sM_0 21 (by decide) (hq _ q_328) (fun _ h9 => h9) rfl (ty := .int) rfl rfl rfl (wI M1 0 21 (0 : Int32)) (by decide) (fvs_setI _ _ _ _ _ _ _ rfl) (fun j _ hj => cof_wI_ne hj) hW dX7_forget_12 (fun H locs hW => ?_)
  obtain ⟨M3, e4, h⟩ := lt_some h
  rw [e4] at hW
  clear e4
  refine lv_iload_n S.1 S.2.1 dX7_forget_15 rfl (lv_at hl 0 rfl) ?_
  obtain ⟨rfl, rfl⟩ := s2 h
  exact fl_iret S.1 S.2.1 hr hlocks hW dX7_forget_16
def fX7_canBe_L4 (p1 : Int32) (M : Mm) : Nat → Int32 → Int32 → Option (Int32 × Int32)
  | 0, _, _ => none
  | n + 1, x2, x3 => if (M.1 0 21) ≤ x3 then (some (x2, x3)) else (if x2 = 0 then (fX7_canBe_L4 p1 M n (0 : Int32) (x3 + (1 : Int32))) else (bP (fX7_worksAt p1 M) (fun (v6 : Int32) => ix x3 6 (ix x3 6 (if ((v6 >>> ((M.1 10 (x3).toNatClampNeg) &&& 31)) &&& (1 : Int32)) = (M.1 11 (x3).toNatClampNeg) then (fX7_canBe_L4 p1 M n (1 : Int32) (x3 + (1 : Int32))) else (fX7_canBe_L4 p1 M n (0 : Int32) (x3 + (1 : Int32))))))))
def fX7_canBe (p1 : Int32) (M : Mm) : Option (Int32) :=
  b2 (fX7_canBe_L4 p1 M 50000 (1 : Int32) (0 : Int32)) (fun (w1 : Int32) (w2 : Int32) => zb w1 (some w1))
set_option maxHeartbeats 4000000 in
set_option maxRecDepth 100000 in
theorem kX7_canBe (l : Launch) {D : va_G} {cy : Nat → ClassId} {ad : Nat → Nat} (hJ : Inj ad 15)  (p1 : Int32) (M : Mm) (r : Int32) (h : fX7_canBe p1 M = some r) : Met l yX7_canBe vX7_canBe ({ frames := 2, cells := 0, slots := 0, locals := 45 } : Room) (PcF [.ref (ad 0), .int p1] D cy ad kdV shM rfM 15 M) (QcI r D cy ad kdV shM rfM 15 M) 0 0 (AV ad 15) := by
  refine Met.ofW (cc := cX7_canBe) (maxL := 4) (ret := (some .boolean)) (by decide) rfl ?_
  intro p e s m args below meth c s₁ B hml hv
  obtain ⟨rfl, hP, hK, hN⟩ := hv
  have hr := B.returns
  have hlocks := B.notSynchronized
  have S : CallFix p m c cX7_canBe 4 s ([.ref (ad 0), .int p1] : List Value).toArray vX7_canBe RX7 := ⟨B.exec, B.bytes, hml, findClass_of_methodNamed B.named, atoms_spec (ws := vX7_canBe) B.pre⟩
  have hq : ∀ w ∈ GW, w.before ([.ref (ad 0), .int p1] : List Value).toArray s = true := fun w h => S.2.2.2.2 w (List.mem_cons_of_mem _ h)
  have hA : ∀ k, k < 15 → AV ad 15 (ad k) := fun k hk => ⟨k, hk, rfl⟩
  have hW : WSt D cy ad kdV shM rfM 15 (AV ad 15) M s.heap s.heap [] := ⟨hP, va_S.rf⟩
  clear hP
  have iX7 : ∀ w ∈ wsX70, w ∈ vX7_canBe := fun w h => List.mem_cons_of_mem _ (inX7 w h)
  have hl := lv_entry ([.ref (ad 0), .int p1]) (n := 4) (Nat.le_of_ble_eq_true rfl)
  rw [lg_entry_eq]
  generalize (lg_sl ([.ref (ad 0), .int p1]) ++ List.replicate (4 - (lg_sl ([.ref (ad 0), .int p1])).length) Slot.unset).toArray = ls at hl ⊢
  have hl : lv_has ls 4 [(0, .ref (ad 0)), (1, .int p1)] := hl
  rw [fX7_canBe] at h
  refine lv_iconst (v := (1 : Int32)) S.1 S.2.1 dX7_canBe_0 (by decide) ?_
  refine lv_istore_n (lv' := [(2, .int (1 : Int32)), (0, .ref (ad 0)), (1, .int p1)]) S.1 S.2.1 dX7_canBe_1 rfl hl (by decide) rfl (fun ls hl => ?_)
  refine lv_iconst (v := (0 : Int32)) S.1 S.2.1 dX7_canBe_2 (by decide) ?_
  refine lv_istore_n (lv' := [(3, .int (0 : Int32)), (2, .int (1 : Int32)), (0, .ref (ad 0)), (1, .int p1)]) S.1 S.2.1 dX7_canBe_3 rfl hl (by decide) rfl (fun ls hl => ?_)
  have L4 : ∀ (n : Nat) (x2 : Int32) (x3 : Int32) (w1 : Int32) (w2 : Int32), fX7_canBe_L4 p1 M n x2 x3 = some (w1, w2) → ∀ (H : Heap) (locs : List Loc) (ls : Array Slot), lv_has ls 4 [(0, .ref (ad 0)), (1, .int p1), (2, .int x2), (3, .int x3)] → WSt D cy ad kdV shM rfM 15 (AV ad 15) M s.heap H locs → (∀ (H : Heap) (locs : List Loc) (ls : Array Slot), lv_has ls 4 [(0, .ref (ad 0)), (1, .int p1), (2, .int w1), (3, .int w2)] → WSt D cy ad kdV shM rfM 15 (AV ad 15) M s.heap H locs → W p l e (headSpec vX7_canBe ({ frames := 2, cells := 0, slots := 0, locals := 45 } : Room)).room s m ([.ref (ad 0), .int p1] : List Value).toArray below meth c H locs 0 0 (MQ below (QcI r D cy ad kdV shM rfM 15 M) ([.ref (ad 0), .int p1] : List Value).toArray s 0 0 (AV ad 15)) (F0 m 51 ls [])) → W p l e (headSpec vX7_canBe ({ frames := 2, cells := 0, slots := 0, locals := 45 } : Room)).room s m ([.ref (ad 0), .int p1] : List Value).toArray below meth c H locs 0 0 (MQ below (QcI r D cy ad kdV shM rfM 15 M) ([.ref (ad 0), .int p1] : List Value).toArray s 0 0 (AV ad 15)) (F0 m 4 ls []) := by
    intro n
    induction n with
    | zero => intro x2 x3 w1 w2 h; cases h
    | succ n ih =>
      intro x2 x3 w1 w2 h H locs ls hl hW K
      rw [fX7_canBe_L4] at h
      refine lv_iload_n S.1 S.2.1 dX7_canBe_4 rfl (lv_at hl 3 rfl) ?_
      refine lv_aload_n S.1 S.2.1 dX7_canBe_5 rfl (lv_at hl 0 rfl) ?_
      refine fl_get S hK iX7 rfl lM_0 sM_0 21 (by decide) (hq _ q_328) (fun _ h9 => h9) (fvs_I rfl) hW dX7_canBe_6 ?_
      refine lv_icmp_ge (tgt := 51) S.1 S.2.1 dX7_canBe_9 (by decide) (fun c3 => ?_) (fun c3 => ?_)
      · replace h := (if_pos c3).symm.trans h
        obtain ⟨rfl, rfl⟩ := s2 h
        exact K _ _ _ hl hW
      · replace h := (if_neg c3).symm.trans h
        refine lv_iload_n S.1 S.2.1 dX7_canBe_12 rfl (lv_at hl 2 rfl) ?_
        refine lv_if_eq (tgt := 43) S.1 S.2.1 dX7_canBe_13 (by decide) (fun c4 => ?_) (fun c4 => ?_)
        · replace h := (if_pos c4).symm.trans h
          refine lv_iconst (v := (0 : Int32)) S.1 S.2.1 dX7_canBe_43 (by decide) ?_
          refine lv_istore_n (lv' := [(2, .int (0 : Int32)), (0, .ref (ad 0)), (1, .int p1), (3, .int x3)]) S.1 S.2.1 dX7_canBe_44 rfl hl (by decide) rfl (fun ls hl => ?_)
          refine lv_iinc (v := x3 + (1 : Int32)) (lv' := [(3, .int (x3 + (1 : Int32))), (2, .int (0 : Int32)), (0, .ref (ad 0)), (1, .int p1)]) S.1 S.2.1 dX7_canBe_45 hl (k := 3) rfl rfl (by decide) rfl (fun ls hl => ?_)
          refine lv_goto (tgt := 4) S.1 S.2.1 dX7_canBe_48 (by decide) ?_
          exact ih _ _ _ _ h _ _ _ (lv_sub hl [2, 3, 1, 0] rfl) hW K
        · replace h := (if_neg c4).symm.trans h
          refine lv_aload_n S.1 S.2.1 dX7_canBe_16 rfl (lv_at hl 0 rfl) ?_
          refine lv_iload_n S.1 S.2.1 dX7_canBe_17 rfl (lv_at hl 1 rfl) ?_
          obtain ⟨v6, u5, h⟩ := bP_some h
          refine fl_doneI (fl_runV S hK hN (kX7_worksAt l hJ p1 M v6 u5) (cwV 1 S.2.2.2.2 (gV q_362 q_363 q_364 q_291 q_361) rfl rfl rfl (by decide +kernel) ⟨Nat.le_of_ble_eq_true rfl, Nat.le_of_ble_eq_true rfl⟩) (ci := 7) rfl lM_0 sM_0 rfl hl.1 rfl (Nat.le_of_ble_eq_true rfl) dX7_canBe_18 ⟨Nat.zero_le _, Nat.zero_le _⟩ hW) hA hW.2 (fun H locs hW => ?_)
          refine lv_aload_n S.1 S.2.1 dX7_canBe_21 rfl (lv_at hl 0 rfl) ?_
          refine fl_get S hK iX7 rfl lM_0 sM_0 19 (by decide) (hq _ q_427) (fun _ h9 => h9) (fvs_R rfl rfl) hW dX7_canBe_22 ?_
          refine lv_iload_n S.1 S.2.1 dX7_canBe_25 rfl (lv_at hl 3 rfl) ?_
          obtain ⟨g7, h⟩ := ix_some h
          refine fl_iald S hK lM_10 sM_10 g7 hW dX7_canBe_26 ?_
          refine lv_ishr S.1 S.2.1 dX7_canBe_27 ?_
          refine lv_iconst (v := (1 : Int32)) S.1 S.2.1 dX7_canBe_28 (by decide) ?_
          refine lv_iand S.1 S.2.1 dX7_canBe_29 ?_
          refine lv_aload_n S.1 S.2.1 dX7_canBe_30 rfl (lv_at hl 0 rfl) ?_
          refine fl_get S hK iX7 rfl lM_0 sM_0 20 (by decide) (hq _ q_428) (fun _ h9 => h9) (fvs_R rfl rfl) hW dX7_canBe_31 ?_
          refine lv_iload_n S.1 S.2.1 dX7_canBe_34 rfl (lv_at hl 3 rfl) ?_
          obtain ⟨g8, h⟩ := ix_some h
          refine fl_iald S hK lM_11 sM_11 g8 hW dX7_canBe_35 ?_
          refine lv_icmp_ne (tgt := 43) S.1 S.2.1 dX7_canBe_36 (by decide) (fun c9 => ?_) (fun c9 => ?_)
          · replace h := (if_neg c9).symm.trans h
            refine lv_iconst (v := (0 : Int32)) S.1 S.2.1 dX7_canBe_43 (by decide) ?_
            refine lv_istore_n (lv' := [(2, .int (0 : Int32)), (0, .ref (ad 0)), (1, .int p1), (3, .int x3)]) S.1 S.2.1 dX7_canBe_44 rfl hl (by decide) rfl (fun ls hl => ?_)
            refine lv_iinc (v := x3 + (1 : Int32)) (lv' := [(3, .int (x3 + (1 : Int32))), (2, .int (0 : Int32)), (0, .ref (ad 0)), (1, .int p1)]) S.1 S.2.1 dX7_canBe_45 hl (k := 3) rfl rfl (by decide) rfl (fun ls hl => ?_)
            refine lv_goto (tgt := 4) S.1 S.2.1 dX7_canBe_48 (by decide) ?_
            exact ih _ _ _ _ h _ _ _ (lv_sub hl [2, 3, 1, 0] rfl) hW K
          · replace h := (if_pos c9).symm.trans h
            refine lv_iconst (v := (1 : Int32)) S.1 S.2.1 dX7_canBe_39 (by decide) ?_
            refine lv_goto (tgt := 44) S.1 S.2.1 dX7_canBe_40 (by decide) ?_
            refine lv_istore_n (lv' := [(2, .int (1 : Int32)), (0, .ref (ad 0)), (1, .int p1), (3, .int x3)]) S.1 S.2.1 dX7_canBe_44 rfl hl (by decide) rfl (fun ls hl => ?_)
            refine lv_iinc (v := x3 + (1 : Int32)) (lv' := [(3, .int (x3 + (1 : Int32))), (2, .int (1 : Int32)), (0, .ref (ad 0)), (1, .int p1)]) S.1 S.2.1 dX7_canBe_45 hl (k := 3) rfl rfl (by decide) rfl (fun ls hl => ?_)
            refine lv_goto (tgt := 4) S.1 S.2.1 dX7_canBe_48 (by decide) ?_
            exact ih _ _ _ _ h _ _ _ (lv_sub hl [2, 3, 1, 0] rfl) hW K
  obtain ⟨w1, w2, u11, h⟩ := b2_some h
  refine L4 50000 _ _ _ _ u11 _ _ _ (lv_sub hl [2, 3, 1, 0] rfl) hW (fun H locs ls hl hW => ?_)
  clear L4
  refine lv_iload_n S.1 S.2.1 dX7_canBe_51 rfl (lv_at hl 2 rfl) ?_
  obtain ⟨g10, h⟩ := zb_some h
  obtain rfl := s1 h
  exact fl_zret S.1 S.2.1 hr hlocks g10 hW dX7_canBe_52
def fX7_ages_L28 (M1 : Mm) : Nat → Int32 → Int32 → Int32 → Int32 → Option (Int32 × Int32 × Int32 × Int32)
  | 0, _, _, _, _ => none
  | n + 1, x2, x3, x4, x5 => if (100 : Int32) ≤ x5 then (some (x2, x3, x4, x5)) else (bP (fX7_canBe x5 M1) (fun (v12 : Int32) => if v12 = 0 then (fX7_ages_L28 M1 n x2 x3 x4 (x5 + (1 : Int32))) else (if x2 = 0 then (fX7_ages_L28 M1 n (x2 + (1 : Int32)) x5 x5 (x5 + (1 : Int32))) else (fX7_ages_L28 M1 n (x2 + (1 : Int32)) x3 x5 (x5 + (1 : Int32))))))
def fX7_ages (p1 : Int32) (M : Mm) : Option (Int32 × Mm) :=
  lt (wI M 0 0 (0 : Int32)) (fun (M1 : Mm) => bP (fX7_in p1 (0 : Int32) (2 : Int32)) (fun (v4 : Int32) => if v4 = 0 then (some ((-1 : Int32), M1)) else (b4 (fX7_ages_L28 M1 50000 (0 : Int32) (-9 : Int32) (-9 : Int32) (0 : Int32)) (fun (w6 : Int32) (w7 : Int32) (w8 : Int32) (w9 : Int32) => if p1 = 0 then (some (w6, M1)) else (if p1 = (1 : Int32) then (some (w7, M1)) else (some (w8, M1)))))))
set_option maxHeartbeats 4000000 in
set_option maxRecDepth 100000 in
theorem kX7_ages (l : Launch) {D : va_G} {cy : Nat → ClassId} {ad : Nat → Nat} (hJ : Inj ad 15)  (p1 : Int32) (M : Mm) (r : Int32) (M' : Mm) (h : fX7_ages p1 M = some (r, M')) : Met l yX7_ages vX7_ages ({ frames := 3, cells := 0, slots := 0, locals := 68 } : Room) (PcF [.ref (ad 0), .int p1] D cy ad kdV shM rfM 15 M) (QcI r D cy ad kdV shM rfM 15 M') 0 0 (AV ad 15) := by
  refine Met.ofW (cc := cX7_ages) (maxL := 6) (ret := (some .int)) (by decide) rfl ?_
  intro p e s m args below meth c s₁ B hml hv
  obtain ⟨rfl, hP, hK, hN⟩ := hv
  have hr := B.returns
  have hlocks := B.notSynchronized
  have S : CallFix p m c cX7_ages 6 s ([.ref (ad 0), .int p1] : List Value).toArray vX7_ages RX7 := ⟨B.exec, B.bytes, hml, findClass_of_methodNamed B.named, atoms_spec (ws := vX7_ages) B.pre⟩
  have hq : ∀ w ∈ GW, w.before ([.ref (ad 0), .int p1] : List Value).toArray s = true := fun w h => S.2.2.2.2 w (List.mem_cons_of_mem _ h)
  have hA : ∀ k, k < 15 → AV ad 15 (ad k) := fun k hk => ⟨k, hk, rfl⟩
  have hW : WSt D cy ad kdV shM rfM 15 (AV ad 15) M s.heap s.heap [] := ⟨hP, va_S.rf⟩
  clear hP
  have iX7 : ∀ w ∈ wsX70, w ∈ vX7_ages := fun w h => List.mem_cons_of_mem _ (inX7 w h)
  have hl := lv_entry ([.ref (ad 0), .int p1]) (n := 6) (Nat.le_of_ble_eq_true rfl)
  rw [lg_entry_eq]
  generalize (lg_sl ([.ref (ad 0), .int p1]) ++ List.replicate (6 - (lg_sl ([.ref (ad 0), .int p1])).length) Slot.unset).toArray = ls at hl ⊢
  have hl : lv_has ls 6 [(0, .ref (ad 0)), (1, .int p1)] := hl
  rw [fX7_ages] at h
  refine lv_aload_n S.1 S.2.1 dX7_ages_0 rfl (lv_at hl 0 rfl) ?_
  refine lv_iconst (v := (0 : Int32)) S.1 S.2.1 dX7_ages_1 (by decide) ?_
  refine fl_put S hK hJ hA tyX7 tyX7_ok nmX7 iX7 rfl lM_0 sM_0 0 (by decide) (hq _ q_287) (fun _ h9 => h9) rfl (ty := .int) rfl rfl rfl (wI M 0 0 (0 : Int32)) (by decide) (fvs_setI _ _ _ _ _ _ _ rfl) (fun j _ hj => cof_wI_ne hj) hW dX7_ages_2 (fun H locs hW => ?_)
  obtain ⟨M1, e2, h⟩ := lt_some h
  rw [e2] at hW
  clear e2
  refine lv_iload_n S.1 S.2.1 dX7_ages_5 rfl (lv_at hl 1 rfl) ?_
  refine lv_iconst (v := (0 : Int32)) S.1 S.2.1 dX7_ages_6 (by decide) ?_
  refine lv_iconst (v := (2 : Int32)) S.1 S.2.1 dX7_ages_7 (by decide) ?_
  obtain ⟨v4, u3, h⟩ := bP_some h
  refine fl_doneP (fl_runS S (kX7_in l p1 (0 : Int32) (2 : Int32) v4 u3) (va_cwS 3 S.2.2.2.2 (gS q_289 q_290 q_291 q_288) rfl rfl rfl (by decide +kernel) ⟨Nat.le_of_ble_eq_true rfl, Nat.le_of_ble_eq_true rfl⟩) rfl hl.1 rfl (Nat.le_of_ble_eq_true rfl) dX7_ages_8 ⟨Nat.zero_le _, Nat.zero_le _⟩) hW (fun H locs hW => ?_)
  refine lv_if_ne (tgt := 16) S.1 S.2.1 dX7_ages_11 (by decide) (fun c5 => ?_) (fun c5 => ?_)
  · replace h := (if_neg c5).symm.trans h
    refine lv_iconst (v := (0 : Int32)) S.1 S.2.1 dX7_ages_16 (by decide) ?_
    refine lv_istore_n (lv' := [(2, .int (0 : Int32)), (0, .ref (ad 0)), (1, .int p1)]) S.1 S.2.1 dX7_ages_17 rfl hl (by decide) rfl (fun ls hl => ?_)
    refine lv_bipush (v := (-9 : Int32)) S.1 S.2.1 dX7_ages_18 (by decide) ?_
    refine lv_istore_n (lv' := [(3, .int (-9 : Int32)), (2, .int (0 : Int32)), (0, .ref (ad 0)), (1, .int p1)]) S.1 S.2.1 dX7_ages_20 rfl hl (by decide) rfl (fun ls hl => ?_)
    refine lv_bipush (v := (-9 : Int32)) S.1 S.2.1 dX7_ages_21 (by decide) ?_
    refine lv_istore (lv' := [(4, .int (-9 : Int32)), (3, .int (-9 : Int32)), (2, .int (0 : Int32)), (0, .ref (ad 0)), (1, .int p1)]) S.1 S.2.1 dX7_ages_23 hl (by decide) rfl (fun ls hl => ?_)
    refine lv_iconst (v := (0 : Int32)) S.1 S.2.1 dX7_ages_25 (by decide) ?_
    refine lv_istore (lv' := [(5, .int (0 : Int32)), (4, .int (-9 : Int32)), (3, .int (-9 : Int32)), (2, .int (0 : Int32)), (0, .ref (ad 0)), (1, .int p1)]) S.1 S.2.1 dX7_ages_26 hl (by decide) rfl (fun ls hl => ?_)
    have L28 : ∀ (n : Nat) (x2 : Int32) (x3 : Int32) (x4 : Int32) (x5 : Int32) (w6 : Int32) (w7 : Int32) (w8 : Int32) (w9 : Int32), fX7_ages_L28 M1 n x2 x3 x4 x5 = some (w6, w7, w8, w9) → ∀ (H : Heap) (locs : List Loc) (ls : Array Slot), lv_has ls 6 [(0, .ref (ad 0)), (1, .int p1), (2, .int x2), (3, .int x3), (4, .int x4), (5, .int x5)] → WSt D cy ad kdV shM rfM 15 (AV ad 15) M1 s.heap H locs → (∀ (H : Heap) (locs : List Loc) (ls : Array Slot), lv_has ls 6 [(0, .ref (ad 0)), (1, .int p1), (2, .int w6), (3, .int w7), (4, .int w8), (5, .int w9)] → WSt D cy ad kdV shM rfM 15 (AV ad 15) M1 s.heap H locs → W p l e (headSpec vX7_ages ({ frames := 3, cells := 0, slots := 0, locals := 68 } : Room)).room s m ([.ref (ad 0), .int p1] : List Value).toArray below meth c H locs 0 0 (MQ below (QcI r D cy ad kdV shM rfM 15 M') ([.ref (ad 0), .int p1] : List Value).toArray s 0 0 (AV ad 15)) (F0 m 68 ls [])) → W p l e (headSpec vX7_ages ({ frames := 3, cells := 0, slots := 0, locals := 68 } : Room)).room s m ([.ref (ad 0), .int p1] : List Value).toArray below meth c H locs 0 0 (MQ below (QcI r D cy ad kdV shM rfM 15 M') ([.ref (ad 0), .int p1] : List Value).toArray s 0 0 (AV ad 15)) (F0 m 28 ls []) := by
      intro n
      induction n with
      | zero => intro x2 x3 x4 x5 w6 w7 w8 w9 h; cases h
      | succ n ih =>
        intro x2 x3 x4 x5 w6 w7 w8 w9 h H locs ls hl hW K
        rw [fX7_ages_L28] at h
        refine lv_iload S.1 S.2.1 dX7_ages_28 (lv_at hl 5 rfl) ?_
        refine lv_bipush (v := (100 : Int32)) S.1 S.2.1 dX7_ages_30 (by decide) ?_
        refine lv_icmp_ge (tgt := 68) S.1 S.2.1 dX7_ages_32 (by decide) (fun c10 => ?_) (fun c10 => ?_)
        · replace h := (if_pos c10).symm.trans h
          obtain ⟨rfl, rfl, rfl, rfl⟩ := s4 h
          exact K _ _ _ hl hW
        · replace h := (if_neg c10).symm.trans h
          refine lv_aload_n S.1 S.2.1 dX7_ages_35 rfl (lv_at hl 0 rfl) ?_
          refine lv_iload S.1 S.2.1 dX7_ages_36 (lv_at hl 5 rfl) ?_
          obtain ⟨v12, u11, h⟩ := bP_some h
          refine fl_doneI (fl_runV S hK hN (kX7_canBe l hJ x5 M1 v12 u11) (cwV 1 S.2.2.2.2 (gV q_430 q_431 q_432 q_291 q_429) rfl rfl rfl (by decide +kernel) ⟨Nat.le_of_ble_eq_true rfl, Nat.le_of_ble_eq_true rfl⟩) (ci := 7) rfl lM_0 sM_0 rfl hl.1 rfl (Nat.le_of_ble_eq_true rfl) dX7_ages_38 ⟨Nat.zero_le _, Nat.zero_le _⟩ hW) hA hW.2 (fun H locs hW => ?_)
          refine lv_if_eq (tgt := 62) S.1 S.2.1 dX7_ages_41 (by decide) (fun c13 => ?_) (fun c13 => ?_)
          · replace h := (if_pos c13).symm.trans h
            refine lv_iinc (v := x5 + (1 : Int32)) (lv' := [(5, .int (x5 + (1 : Int32))), (0, .ref (ad 0)), (1, .int p1), (2, .int x2), (3, .int x3), (4, .int x4)]) S.1 S.2.1 dX7_ages_62 hl (k := 5) rfl rfl (by decide) rfl (fun ls hl => ?_)
            refine lv_goto (tgt := 28) S.1 S.2.1 dX7_ages_65 (by decide) ?_
            exact ih _ _ _ _ _ _ _ _ h _ _ _ (lv_sub hl [1, 2, 3, 4, 5, 0] rfl) hW K
          · replace h := (if_neg c13).symm.trans h
            refine lv_iload_n S.1 S.2.1 dX7_ages_44 rfl (lv_at hl 2 rfl) ?_
            refine lv_if_ne (tgt := 53) S.1 S.2.1 dX7_ages_45 (by decide) (fun c14 => ?_) (fun c14 => ?_)
            · replace h := (if_neg c14).symm.trans h
              refine lv_iload_n S.1 S.2.1 dX7_ages_53 rfl (lv_at hl 3 rfl) ?_
              refine lv_istore_n (lv' := [(3, .int x3), (0, .ref (ad 0)), (1, .int p1), (2, .int x2), (4, .int x4), (5, .int x5)]) S.1 S.2.1 dX7_ages_54 rfl hl (by decide) rfl (fun ls hl => ?_)
              refine lv_iload S.1 S.2.1 dX7_ages_55 (lv_at hl 5 rfl) ?_
              refine lv_istore (lv' := [(4, .int x5), (3, .int x3), (0, .ref (ad 0)), (1, .int p1), (2, .int x2), (5, .int x5)]) S.1 S.2.1 dX7_ages_57 hl (by decide) rfl (fun ls hl => ?_)
              refine lv_iinc (v := x2 + (1 : Int32)) (lv' := [(2, .int (x2 + (1 : Int32))), (4, .int x5), (3, .int x3), (0, .ref (ad 0)), (1, .int p1), (5, .int x5)]) S.1 S.2.1 dX7_ages_59 hl (k := 4) rfl rfl (by decide) rfl (fun ls hl => ?_)
              refine lv_iinc (v := x5 + (1 : Int32)) (lv' := [(5, .int (x5 + (1 : Int32))), (2, .int (x2 + (1 : Int32))), (4, .int x5), (3, .int x3), (0, .ref (ad 0)), (1, .int p1)]) S.1 S.2.1 dX7_ages_62 hl (k := 5) rfl rfl (by decide) rfl (fun ls hl => ?_)
              refine lv_goto (tgt := 28) S.1 S.2.1 dX7_ages_65 (by decide) ?_
              exact ih _ _ _ _ _ _ _ _ h _ _ _ (lv_sub hl [4, 5, 1, 3, 2, 0] rfl) hW K
            · replace h := (if_pos c14).symm.trans h
              refine lv_iload S.1 S.2.1 dX7_ages_48 (lv_at hl 5 rfl) ?_
              refine lv_goto (tgt := 54) S.1 S.2.1 dX7_ages_50 (by decide) ?_
              refine lv_istore_n (lv' := [(3, .int x5), (0, .ref (ad 0)), (1, .int p1), (2, .int x2), (4, .int x4), (5, .int x5)]) S.1 S.2.1 dX7_ages_54 rfl hl (by decide) rfl (fun ls hl => ?_)
              refine lv_iload S.1 S.2.1 dX7_ages_55 (lv_at hl 5 rfl) ?_
              refine lv_istore (lv' := [(4, .int x5), (3, .int x5), (0, .ref (ad 0)), (1, .int p1), (2, .int x2), (5, .int x5)]) S.1 S.2.1 dX7_ages_57 hl (by decide) rfl (fun ls hl => ?_)
              refine lv_iinc (v := x2 + (1 : Int32)) (lv' := [(2, .int (x2 + (1 : Int32))), (4, .int x5), (3, .int x5), (0, .ref (ad 0)), (1, .int p1), (5, .int x5)]) S.1 S.2.1 dX7_ages_59 hl (k := 4) rfl rfl (by decide) rfl (fun ls hl => ?_)
              refine lv_iinc (v := x5 + (1 : Int32)) (lv' := [(5, .int (x5 + (1 : Int32))), (2, .int (x2 + (1 : Int32))), (4, .int x5), (3, .int x5), (0, .ref (ad 0)), (1, .int p1)]) S.1 S.2.1 dX7_ages_62 hl (k := 5) rfl rfl (by decide) rfl (fun ls hl => ?_)
              refine lv_goto (tgt := 28) S.1 S.2.1 dX7_ages_65 (by decide) ?_
              exact ih _ _ _ _ _ _ _ _ h _ _ _ (lv_sub hl [4, 5, 1, 3, 2, 0] rfl) hW K
    obtain ⟨w6, w7, w8, w9, u17, h⟩ := b4_some h
    refine L28 50000 _ _ _ _ _ _ _ _ u17 _ _ _ (lv_sub hl [4, 5, 3, 2, 1, 0] rfl) hW (fun H locs ls hl hW => ?_)
    clear L28
    refine lv_iload_n S.1 S.2.1 dX7_ages_68 rfl (lv_at hl 1 rfl) ?_
    refine lv_if_ne (tgt := 76) S.1 S.2.1 dX7_ages_69 (by decide) (fun c15 => ?_) (fun c15 => ?_)
    · replace h := (if_neg c15).symm.trans h
      refine lv_iload_n S.1 S.2.1 dX7_ages_76 rfl (lv_at hl 1 rfl) ?_
      refine lv_iconst (v := (1 : Int32)) S.1 S.2.1 dX7_ages_77 (by decide) ?_
      refine lv_icmp_ne (tgt := 85) S.1 S.2.1 dX7_ages_78 (by decide) (fun c16 => ?_) (fun c16 => ?_)
      · replace h := (if_neg c16).symm.trans h
        refine lv_iload S.1 S.2.1 dX7_ages_85 (lv_at hl 4 rfl) ?_
        obtain ⟨rfl, rfl⟩ := s2 h
        exact fl_iret S.1 S.2.1 hr hlocks hW dX7_ages_87
      · replace h := (if_pos c16).symm.trans h
        refine lv_iload_n S.1 S.2.1 dX7_ages_81 rfl (lv_at hl 3 rfl) ?_
        refine lv_goto (tgt := 87) S.1 S.2.1 dX7_ages_82 (by decide) ?_
        obtain ⟨rfl, rfl⟩ := s2 h
        exact fl_iret S.1 S.2.1 hr hlocks hW dX7_ages_87
    · replace h := (if_pos c15).symm.trans h
      refine lv_iload_n S.1 S.2.1 dX7_ages_72 rfl (lv_at hl 2 rfl) ?_
      refine lv_goto (tgt := 87) S.1 S.2.1 dX7_ages_73 (by decide) ?_
      obtain ⟨rfl, rfl⟩ := s2 h
      exact fl_iret S.1 S.2.1 hr hlocks hW dX7_ages_87
  · replace h := (if_pos c5).symm.trans h
    refine lv_iconst (v := (-1 : Int32)) S.1 S.2.1 dX7_ages_14 (by decide) ?_
    obtain ⟨rfl, rfl⟩ := s2 h
    exact fl_iret S.1 S.2.1 hr hlocks hW dX7_ages_15
def fX7_next_L35 (M1 : Mm) (x4 : Int32) : Nat → Int32 → Int32 → Int32 → Option (Int32 × Int32 × Int32)
  | 0, _, _, _ => none
  | n + 1, x3_35, x5_35, x6_35 => if (100 : Int32) ≤ x6_35 then (some (x3_35, x5_35, x6_35)) else (bP (fX7_canBe x6_35 M1) (fun (v13 : Int32) => if v13 = 0 then (bP (fX7_canBe x6_35 M1) (fun (v16 : Int32) => if v16 = 0 then (fX7_next_L35 M1 x4 n (x3_35 + (0 : Int32)) (x5_35 + (0 : Int32)) (x6_35 + (1 : Int32))) else (bP (fX7_worksAt x6_35 M1) (fun (v19 : Int32) => bP (fX7_has v19 x4) (fun (v21 : Int32) => if v21 = 0 then (fX7_next_L35 M1 x4 n (x3_35 + (0 : Int32)) (x5_35 + (0 : Int32)) (x6_35 + (1 : Int32))) else (fX7_next_L35 M1 x4 n (x3_35 + (0 : Int32)) (x5_35 + (1 : Int32)) (x6_35 + (1 : Int32)))))))) else (bP (fX7_canBe x6_35 M1) (fun (v24 : Int32) => if v24 = 0 then (fX7_next_L35 M1 x4 n (x3_35 + (1 : Int32)) (x5_35 + (0 : Int32)) (x6_35 + (1 : Int32))) else (bP (fX7_worksAt x6_35 M1) (fun (v27 : Int32) => bP (fX7_has v27 x4) (fun (v29 : Int32) => if v29 = 0 then (fX7_next_L35 M1 x4 n (x3_35 + (1 : Int32)) (x5_35 + (0 : Int32)) (x6_35 + (1 : Int32))) else (fX7_next_L35 M1 x4 n (x3_35 + (1 : Int32)) (x5_35 + (1 : Int32)) (x6_35 + (1 : Int32))))))))))
def fX7_next_L16 (M1 : Mm) : Nat → Int32 → Int32 → Int32 → Int32 → Option (Int32 × Int32 × Int32 × Int32)
  | 0, _, _, _, _ => none
  | n + 1, x1, x2, x3, x4 => if (M1.1 2 ((2 : Int32)).toNatClampNeg) ≤ x4 then (some (x1, x2, x3, x4)) else (b3 (fX7_next_L35 M1 x4 50000 (0 : Int32) (0 : Int32) (0 : Int32)) (fun (w8 : Int32) (w9 : Int32) (w10 : Int32) => if w9 ≤ (w8 - w9) then (if x2 ≤ (w8 - w9) then (if x2 ≤ (w8 - w9) then (fX7_next_L16 M1 n x1 x2 w8 (x4 + (1 : Int32))) else (fX7_next_L16 M1 n x1 (w8 - w9) w8 (x4 + (1 : Int32)))) else (if x2 ≤ (w8 - w9) then (fX7_next_L16 M1 n x4 x2 w8 (x4 + (1 : Int32))) else (fX7_next_L16 M1 n x4 (w8 - w9) w8 (x4 + (1 : Int32))))) else (if x2 ≤ w9 then (if x2 ≤ w9 then (fX7_next_L16 M1 n x1 x2 w8 (x4 + (1 : Int32))) else (fX7_next_L16 M1 n x1 w9 w8 (x4 + (1 : Int32)))) else (if x2 ≤ w9 then (fX7_next_L16 M1 n x4 x2 w8 (x4 + (1 : Int32))) else (fX7_next_L16 M1 n x4 w9 w8 (x4 + (1 : Int32)))))))
def fX7_next (M : Mm) : Option (Int32 × Mm) :=
  lt (wI M 0 0 (0 : Int32)) (fun (M1 : Mm) => b4 (fX7_next_L16 M1 50000 (-9 : Int32) (101 : Int32) (0 : Int32) (0 : Int32)) (fun (w3 : Int32) (w4 : Int32) (w5 : Int32) (w6 : Int32) => if (2 : Int32) ≤ w5 then (some (w3, M1)) else (some ((-9 : Int32), M1))))
set_option maxHeartbeats 4000000 in
set_option maxRecDepth 100000 in
theorem kX7_next (l : Launch) {D : va_G} {cy : Nat → ClassId} {ad : Nat → Nat} (hJ : Inj ad 15)   (M : Mm) (r : Int32) (M' : Mm) (h : fX7_next M = some (r, M')) : Met l yX7_next vX7_next ({ frames := 3, cells := 0, slots := 0, locals := 68 } : Room) (PcF [.ref (ad 0)] D cy ad kdV shM rfM 15 M) (QcI r D cy ad kdV shM rfM 15 M') 0 0 (AV ad 15) := by
  refine Met.ofW (cc := cX7_next) (maxL := 7) (ret := (some .int)) (by decide) rfl ?_
  intro p e s m args below meth c s₁ B hml hv
  obtain ⟨rfl, hP, hK, hN⟩ := hv
  have hr := B.returns
  have hlocks := B.notSynchronized
  have S : CallFix p m c cX7_next 7 s ([.ref (ad 0)] : List Value).toArray vX7_next RX7 := ⟨B.exec, B.bytes, hml, findClass_of_methodNamed B.named, atoms_spec (ws := vX7_next) B.pre⟩
  have hq : ∀ w ∈ GW, w.before ([.ref (ad 0)] : List Value).toArray s = true := fun w h => S.2.2.2.2 w (List.mem_cons_of_mem _ h)
  have hA : ∀ k, k < 15 → AV ad 15 (ad k) := fun k hk => ⟨k, hk, rfl⟩
  have hW : WSt D cy ad kdV shM rfM 15 (AV ad 15) M s.heap s.heap [] := ⟨hP, va_S.rf⟩
  clear hP
  have iX7 : ∀ w ∈ wsX70, w ∈ vX7_next := fun w h => List.mem_cons_of_mem _ (inX7 w h)
  have hl := lv_entry ([.ref (ad 0)]) (n := 7) (Nat.le_of_ble_eq_true rfl)
  rw [lg_entry_eq]
  generalize (lg_sl ([.ref (ad 0)]) ++ List.replicate (7 - (lg_sl ([.ref (ad 0)])).length) Slot.unset).toArray = ls at hl ⊢
  have hl : lv_has ls 7 [(0, .ref (ad 0))] := hl
  rw [fX7_next] at h
  refine lv_aload_n S.1 S.2.1 dX7_next_0 rfl (lv_at hl 0 rfl) ?_
  refine lv_iconst (v := (0 : Int32)) S.1 S.2.1 dX7_next_1 (by decide) ?_
  refine fl_put S hK hJ hA tyX7 tyX7_ok nmX7 iX7 rfl lM_0 sM_0 0 (by decide) (hq _ q_287) (fun _ h9 => h9) rfl (ty := .int) rfl rfl rfl (wI M 0 0 (0 : Int32)) (by decide) (fvs_setI _ _ _ _ _ _ _ rfl) (fun j _ hj => cof_wI_ne hj) hW dX7_next_2 (fun H locs hW => ?_)
  obtain ⟨M1, e2, h⟩ := lt_some h
  rw [e2] at hW
  clear e2
  refine lv_bipush (v := (-9 : Int32)) S.1 S.2.1 dX7_next_5 (by decide) ?_
  refine lv_istore_n (lv' := [(1, .int (-9 : Int32)), (0, .ref (ad 0))]) S.1 S.2.1 dX7_next_7 rfl hl (by decide) rfl (fun ls hl => ?_)
  refine lv_bipush (v := (101 : Int32)) S.1 S.2.1 dX7_next_8 (by decide) ?_
  refine lv_istore_n (lv' := [(2, .int (101 : Int32)), (1, .int (-9 : Int32)), (0, .ref (ad 0))]) S.1 S.2.1 dX7_next_10 rfl hl (by decide) rfl (fun ls hl => ?_)
  refine lv_iconst (v := (0 : Int32)) S.1 S.2.1 dX7_next_11 (by decide) ?_
  refine lv_istore_n (lv' := [(3, .int (0 : Int32)), (2, .int (101 : Int32)), (1, .int (-9 : Int32)), (0, .ref (ad 0))]) S.1 S.2.1 dX7_next_12 rfl hl (by decide) rfl (fun ls hl => ?_)
  refine lv_iconst (v := (0 : Int32)) S.1 S.2.1 dX7_next_13 (by decide) ?_
  refine lv_istore (lv' := [(4, .int (0 : Int32)), (3, .int (0 : Int32)), (2, .int (101 : Int32)), (1, .int (-9 : Int32)), (0, .ref (ad 0))]) S.1 S.2.1 dX7_next_14 hl (by decide) rfl (fun ls hl => ?_)
  have L16 : ∀ (n : Nat) (x1 : Int32) (x2 : Int32) (x3 : Int32) (x4 : Int32) (w3 : Int32) (w4 : Int32) (w5 : Int32) (w6 : Int32), fX7_next_L16 M1 n x1 x2 x3 x4 = some (w3, w4, w5, w6) → ∀ (H : Heap) (locs : List Loc) (ls : Array Slot), lv_has ls 7 [(0, .ref (ad 0)), (1, .int x1), (2, .int x2), (3, .int x3), (4, .int x4)] → WSt D cy ad kdV shM rfM 15 (AV ad 15) M1 s.heap H locs → (∀ (H : Heap) (locs : List Loc) (ls : Array Slot), lv_has ls 7 [(0, .ref (ad 0)), (1, .int w3), (2, .int w4), (3, .int w5), (4, .int w6)] → WSt D cy ad kdV shM rfM 15 (AV ad 15) M1 s.heap H locs → W p l e (headSpec vX7_next ({ frames := 3, cells := 0, slots := 0, locals := 68 } : Room)).room s m ([.ref (ad 0)] : List Value).toArray below meth c H locs 0 0 (MQ below (QcI r D cy ad kdV shM rfM 15 M') ([.ref (ad 0)] : List Value).toArray s 0 0 (AV ad 15)) (F0 m 150 ls [])) → W p l e (headSpec vX7_next ({ frames := 3, cells := 0, slots := 0, locals := 68 } : Room)).room s m ([.ref (ad 0)] : List Value).toArray below meth c H locs 0 0 (MQ below (QcI r D cy ad kdV shM rfM 15 M') ([.ref (ad 0)] : List Value).toArray s 0 0 (AV ad 15)) (F0 m 16 ls []) := by
    intro n
    induction n with
    | zero => intro x1 x2 x3 x4 w3 w4 w5 w6 h; cases h
    | succ n ih =>
      intro x1 x2 x3 x4 w3 w4 w5 w6 h H locs ls hl hW K
      rw [fX7_next_L16] at h
      refine lv_iload S.1 S.2.1 dX7_next_16 (lv_at hl 4 rfl) ?_
      refine lv_aload_n S.1 S.2.1 dX7_next_18 rfl (lv_at hl 0 rfl) ?_
      refine fl_get S hK iX7 rfl lM_0 sM_0 10 (by decide) (hq _ q_319) (fun _ h9 => h9) (fvs_R rfl rfl) hW dX7_next_19 ?_
      refine lv_iconst (v := (2 : Int32)) S.1 S.2.1 dX7_next_22 (by decide) ?_
      refine fl_iald S hK lM_2 sM_2 (vp_dec (i := (2 : Int32)) (n := 8) (by decide)) hW dX7_next_23 ?_
      refine lv_icmp_ge (tgt := 150) S.1 S.2.1 dX7_next_24 (by decide) (fun c7 => ?_) (fun c7 => ?_)
      · replace h := (if_pos c7).symm.trans h
        obtain ⟨rfl, rfl, rfl, rfl⟩ := s4 h
        exact K _ _ _ hl hW
      · replace h := (if_neg c7).symm.trans h
        refine lv_iconst (v := (0 : Int32)) S.1 S.2.1 dX7_next_27 (by decide) ?_
        refine lv_istore (lv' := [(5, .int (0 : Int32)), (0, .ref (ad 0)), (1, .int x1), (2, .int x2), (3, .int x3), (4, .int x4)]) S.1 S.2.1 dX7_next_28 hl (by decide) rfl (fun ls hl => ?_)
        refine lv_iconst (v := (0 : Int32)) S.1 S.2.1 dX7_next_30 (by decide) ?_
        refine lv_istore_n (lv' := [(3, .int (0 : Int32)), (5, .int (0 : Int32)), (0, .ref (ad 0)), (1, .int x1), (2, .int x2), (4, .int x4)]) S.1 S.2.1 dX7_next_31 rfl hl (by decide) rfl (fun ls hl => ?_)
        refine lv_iconst (v := (0 : Int32)) S.1 S.2.1 dX7_next_32 (by decide) ?_
        refine lv_istore (lv' := [(6, .int (0 : Int32)), (3, .int (0 : Int32)), (5, .int (0 : Int32)), (0, .ref (ad 0)), (1, .int x1), (2, .int x2), (4, .int x4)]) S.1 S.2.1 dX7_next_33 hl (by decide) rfl (fun ls hl => ?_)
        have L35 : ∀ (n : Nat) (x3_35 : Int32) (x5_35 : Int32) (x6_35 : Int32) (w8 : Int32) (w9 : Int32) (w10 : Int32), fX7_next_L35 M1 x4 n x3_35 x5_35 x6_35 = some (w8, w9, w10) → ∀ (H : Heap) (locs : List Loc) (ls : Array Slot), lv_has ls 7 [(0, .ref (ad 0)), (1, .int x1), (2, .int x2), (3, .int x3_35), (4, .int x4), (5, .int x5_35), (6, .int x6_35)] → WSt D cy ad kdV shM rfM 15 (AV ad 15) M1 s.heap H locs → (∀ (H : Heap) (locs : List Loc) (ls : Array Slot), lv_has ls 7 [(0, .ref (ad 0)), (1, .int x1), (2, .int x2), (3, .int w8), (4, .int x4), (5, .int w9), (6, .int w10)] → WSt D cy ad kdV shM rfM 15 (AV ad 15) M1 s.heap H locs → W p l e (headSpec vX7_next ({ frames := 3, cells := 0, slots := 0, locals := 68 } : Room)).room s m ([.ref (ad 0)] : List Value).toArray below meth c H locs 0 0 (MQ below (QcI r D cy ad kdV shM rfM 15 M') ([.ref (ad 0)] : List Value).toArray s 0 0 (AV ad 15)) (F0 m 98 ls [])) → W p l e (headSpec vX7_next ({ frames := 3, cells := 0, slots := 0, locals := 68 } : Room)).room s m ([.ref (ad 0)] : List Value).toArray below meth c H locs 0 0 (MQ below (QcI r D cy ad kdV shM rfM 15 M') ([.ref (ad 0)] : List Value).toArray s 0 0 (AV ad 15)) (F0 m 35 ls []) := by
          intro n
          induction n with
          | zero => intro x3_35 x5_35 x6_35 w8 w9 w10 h; cases h
          | succ n ih =>
            intro x3_35 x5_35 x6_35 w8 w9 w10 h H locs ls hl hW K
            rw [fX7_next_L35] at h
            refine lv_iload S.1 S.2.1 dX7_next_35 (lv_at hl 6 rfl) ?_
            refine lv_bipush (v := (100 : Int32)) S.1 S.2.1 dX7_next_37 (by decide) ?_
            refine lv_icmp_ge (tgt := 98) S.1 S.2.1 dX7_next_39 (by decide) (fun c11 => ?_) (fun c11 => ?_)
            · replace h := (if_pos c11).symm.trans h
              obtain ⟨rfl, rfl, rfl⟩ := s3 h
              exact K _ _ _ hl hW
            · replace h := (if_neg c11).symm.trans h
              refine lv_iload_n S.1 S.2.1 dX7_next_42 rfl (lv_at hl 3 rfl) ?_
              refine lv_aload_n S.1 S.2.1 dX7_next_43 rfl (lv_at hl 0 rfl) ?_
              refine lv_iload S.1 S.2.1 dX7_next_44 (lv_at hl 6 rfl) ?_
              obtain ⟨v13, u12, h⟩ := bP_some h
              refine fl_doneI (fl_runV S hK hN (kX7_canBe l hJ x6_35 M1 v13 u12) (cwV 1 S.2.2.2.2 (gV q_430 q_431 q_432 q_291 q_429) rfl rfl rfl (by decide +kernel) ⟨Nat.le_of_ble_eq_true rfl, Nat.le_of_ble_eq_true rfl⟩) (ci := 7) rfl lM_0 sM_0 rfl hl.1 rfl (Nat.le_of_ble_eq_true rfl) dX7_next_46 ⟨Nat.zero_le _, Nat.zero_le _⟩ hW) hA hW.2 (fun H locs hW => ?_)
              refine lv_if_eq (tgt := 56) S.1 S.2.1 dX7_next_49 (by decide) (fun c14 => ?_) (fun c14 => ?_)
              · replace h := (if_pos c14).symm.trans h
                refine lv_iconst (v := (0 : Int32)) S.1 S.2.1 dX7_next_56 (by decide) ?_
                refine lv_iadd S.1 S.2.1 dX7_next_57 ?_
                refine lv_istore_n (lv' := [(3, .int (x3_35 + (0 : Int32))), (0, .ref (ad 0)), (1, .int x1), (2, .int x2), (4, .int x4), (5, .int x5_35), (6, .int x6_35)]) S.1 S.2.1 dX7_next_58 rfl hl (by decide) rfl (fun ls hl => ?_)
                refine lv_iload S.1 S.2.1 dX7_next_59 (lv_at hl 5 rfl) ?_
                refine lv_aload_n S.1 S.2.1 dX7_next_61 rfl (lv_at hl 1 rfl) ?_
                refine lv_iload S.1 S.2.1 dX7_next_62 (lv_at hl 6 rfl) ?_
                obtain ⟨v16, u15, h⟩ := bP_some h
                refine fl_doneI (fl_runV S hK hN (kX7_canBe l hJ x6_35 M1 v16 u15) (cwV 1 S.2.2.2.2 (gV q_430 q_431 q_432 q_291 q_429) rfl rfl rfl (by decide +kernel) ⟨Nat.le_of_ble_eq_true rfl, Nat.le_of_ble_eq_true rfl⟩) (ci := 7) rfl lM_0 sM_0 rfl hl.1 rfl (Nat.le_of_ble_eq_true rfl) dX7_next_64 ⟨Nat.zero_le _, Nat.zero_le _⟩ hW) hA hW.2 (fun H locs hW => ?_)
                refine lv_if_eq (tgt := 88) S.1 S.2.1 dX7_next_67 (by decide) (fun c17 => ?_) (fun c17 => ?_)
                · replace h := (if_pos c17).symm.trans h
                  refine lv_iconst (v := (0 : Int32)) S.1 S.2.1 dX7_next_88 (by decide) ?_
                  refine lv_iadd S.1 S.2.1 dX7_next_89 ?_
                  refine lv_istore (lv' := [(5, .int (x5_35 + (0 : Int32))), (3, .int (x3_35 + (0 : Int32))), (0, .ref (ad 0)), (1, .int x1), (2, .int x2), (4, .int x4), (6, .int x6_35)]) S.1 S.2.1 dX7_next_90 hl (by decide) rfl (fun ls hl => ?_)
                  refine lv_iinc (v := x6_35 + (1 : Int32)) (lv' := [(6, .int (x6_35 + (1 : Int32))), (5, .int (x5_35 + (0 : Int32))), (3, .int (x3_35 + (0 : Int32))), (0, .ref (ad 0)), (1, .int x1), (2, .int x2), (4, .int x4)]) S.1 S.2.1 dX7_next_92 hl (k := 6) rfl rfl (by decide) rfl (fun ls hl => ?_)
                  refine lv_goto (tgt := 35) S.1 S.2.1 dX7_next_95 (by decide) ?_
                  exact ih _ _ _ _ _ _ h _ _ _ (lv_sub hl [3, 4, 5, 2, 6, 1, 0] rfl) hW K
                · replace h := (if_neg c17).symm.trans h
                  refine lv_aload_n S.1 S.2.1 dX7_next_70 rfl (lv_at hl 1 rfl) ?_
                  refine lv_iload S.1 S.2.1 dX7_next_71 (lv_at hl 6 rfl) ?_
                  obtain ⟨v19, u18, h⟩ := bP_some h
                  refine fl_doneI (fl_runV S hK hN (kX7_worksAt l hJ x6_35 M1 v19 u18) (cwV 1 S.2.2.2.2 (gV q_362 q_363 q_364 q_291 q_361) rfl rfl rfl (by decide +kernel) ⟨Nat.le_of_ble_eq_true rfl, Nat.le_of_ble_eq_true rfl⟩) (ci := 7) rfl lM_0 sM_0 rfl hl.1 rfl (Nat.le_of_ble_eq_true rfl) dX7_next_73 ⟨Nat.zero_le _, Nat.zero_le _⟩ hW) hA hW.2 (fun H locs hW => ?_)
                  refine lv_iload S.1 S.2.1 dX7_next_76 (lv_at hl 4 rfl) ?_
                  obtain ⟨v21, u20, h⟩ := bP_some h
                  refine fl_doneP (fl_runS S (kX7_has l v19 x4 v21 u20) (va_cwS 2 S.2.2.2.2 (gS q_348 q_349 q_291 q_347) rfl rfl rfl (by decide +kernel) ⟨Nat.le_of_ble_eq_true rfl, Nat.le_of_ble_eq_true rfl⟩) rfl hl.1 rfl (Nat.le_of_ble_eq_true rfl) dX7_next_78 ⟨Nat.zero_le _, Nat.zero_le _⟩) hW (fun H locs hW => ?_)
                  refine lv_if_eq (tgt := 88) S.1 S.2.1 dX7_next_81 (by decide) (fun c22 => ?_) (fun c22 => ?_)
                  · replace h := (if_pos c22).symm.trans h
                    refine lv_iconst (v := (0 : Int32)) S.1 S.2.1 dX7_next_88 (by decide) ?_
                    refine lv_iadd S.1 S.2.1 dX7_next_89 ?_
                    refine lv_istore (lv' := [(5, .int (x5_35 + (0 : Int32))), (3, .int (x3_35 + (0 : Int32))), (0, .ref (ad 0)), (1, .int x1), (2, .int x2), (4, .int x4), (6, .int x6_35)]) S.1 S.2.1 dX7_next_90 hl (by decide) rfl (fun ls hl => ?_)
                    refine lv_iinc (v := x6_35 + (1 : Int32)) (lv' := [(6, .int (x6_35 + (1 : Int32))), (5, .int (x5_35 + (0 : Int32))), (3, .int (x3_35 + (0 : Int32))), (0, .ref (ad 0)), (1, .int x1), (2, .int x2), (4, .int x4)]) S.1 S.2.1 dX7_next_92 hl (k := 6) rfl rfl (by decide) rfl (fun ls hl => ?_)
                    refine lv_goto (tgt := 35) S.1 S.2.1 dX7_next_95 (by decide) ?_
                    exact ih _ _ _ _ _ _ h _ _ _ (lv_sub hl [3, 4, 5, 2, 6, 1, 0] rfl) hW K
                  · replace h := (if_neg c22).symm.trans h
                    refine lv_iconst (v := (1 : Int32)) S.1 S.2.1 dX7_next_84 (by decide) ?_
                    refine lv_goto (tgt := 89) S.1 S.2.1 dX7_next_85 (by decide) ?_
                    refine lv_iadd S.1 S.2.1 dX7_next_89 ?_
                    refine lv_istore (lv' := [(5, .int (x5_35 + (1 : Int32))), (3, .int (x3_35 + (0 : Int32))), (0, .ref (ad 0)), (1, .int x1), (2, .int x2), (4, .int x4), (6, .int x6_35)]) S.1 S.2.1 dX7_next_90 hl (by decide) rfl (fun ls hl => ?_)
                    refine lv_iinc (v := x6_35 + (1 : Int32)) (lv' := [(6, .int (x6_35 + (1 : Int32))), (5, .int (x5_35 + (1 : Int32))), (3, .int (x3_35 + (0 : Int32))), (0, .ref (ad 0)), (1, .int x1), (2, .int x2), (4, .int x4)]) S.1 S.2.1 dX7_next_92 hl (k := 6) rfl rfl (by decide) rfl (fun ls hl => ?_)
                    refine lv_goto (tgt := 35) S.1 S.2.1 dX7_next_95 (by decide) ?_
                    exact ih _ _ _ _ _ _ h _ _ _ (lv_sub hl [3, 4, 5, 2, 6, 1, 0] rfl) hW K
              · replace h := (if_neg c14).symm.trans h
                refine lv_iconst (v := (1 : Int32)) S.1 S.2.1 dX7_next_52 (by decide) ?_
                refine lv_goto (tgt := 57) S.1 S.2.1 dX7_next_53 (by decide) ?_
                refine lv_iadd S.1 S.2.1 dX7_next_57 ?_
                refine lv_istore_n (lv' := [(3, .int (x3_35 + (1 : Int32))), (0, .ref (ad 0)), (1, .int x1), (2, .int x2), (4, .int x4), (5, .int x5_35), (6, .int x6_35)]) S.1 S.2.1 dX7_next_58 rfl hl (by decide) rfl (fun ls hl => ?_)
                refine lv_iload S.1 S.2.1 dX7_next_59 (lv_at hl 5 rfl) ?_
                refine lv_aload_n S.1 S.2.1 dX7_next_61 rfl (lv_at hl 1 rfl) ?_
                refine lv_iload S.1 S.2.1 dX7_next_62 (lv_at hl 6 rfl) ?_
                obtain ⟨v24, u23, h⟩ := bP_some h
                refine fl_doneI (fl_runV S hK hN (kX7_canBe l hJ x6_35 M1 v24 u23) (cwV 1 S.2.2.2.2 (gV q_430 q_431 q_432 q_291 q_429) rfl rfl rfl (by decide +kernel) ⟨Nat.le_of_ble_eq_true rfl, Nat.le_of_ble_eq_true rfl⟩) (ci := 7) rfl lM_0 sM_0 rfl hl.1 rfl (Nat.le_of_ble_eq_true rfl) dX7_next_64 ⟨Nat.zero_le _, Nat.zero_le _⟩ hW) hA hW.2 (fun H locs hW => ?_)
                refine lv_if_eq (tgt := 88) S.1 S.2.1 dX7_next_67 (by decide) (fun c25 => ?_) (fun c25 => ?_)
                · replace h := (if_pos c25).symm.trans h
                  refine lv_iconst (v := (0 : Int32)) S.1 S.2.1 dX7_next_88 (by decide) ?_
                  refine lv_iadd S.1 S.2.1 dX7_next_89 ?_
                  refine lv_istore (lv' := [(5, .int (x5_35 + (0 : Int32))), (3, .int (x3_35 + (1 : Int32))), (0, .ref (ad 0)), (1, .int x1), (2, .int x2), (4, .int x4), (6, .int x6_35)]) S.1 S.2.1 dX7_next_90 hl (by decide) rfl (fun ls hl => ?_)
                  refine lv_iinc (v := x6_35 + (1 : Int32)) (lv' := [(6, .int (x6_35 + (1 : Int32))), (5, .int (x5_35 + (0 : Int32))), (3, .int (x3_35 + (1 : Int32))), (0, .ref (ad 0)), (1, .int x1), (2, .int x2), (4, .int x4)]) S.1 S.2.1 dX7_next_92 hl (k := 6) rfl rfl (by decide) rfl (fun ls hl => ?_)
                  refine lv_goto (tgt := 35) S.1 S.2.1 dX7_next_95 (by decide) ?_
                  exact ih _ _ _ _ _ _ h _ _ _ (lv_sub hl [3, 4, 5, 2, 6, 1, 0] rfl) hW K
                · replace h := (if_neg c25).symm.trans h
                  refine lv_aload_n S.1 S.2.1 dX7_next_70 rfl (lv_at hl 1 rfl) ?_
                  refine lv_iload S.1 S.2.1 dX7_next_71 (lv_at hl 6 rfl) ?_
                  obtain ⟨v27, u26, h⟩ := bP_some h
                  refine fl_doneI (fl_runV S hK hN (kX7_worksAt l hJ x6_35 M1 v27 u26) (cwV 1 S.2.2.2.2 (gV q_362 q_363 q_364 q_291 q_361) rfl rfl rfl (by decide +kernel) ⟨Nat.le_of_ble_eq_true rfl, Nat.le_of_ble_eq_true rfl⟩) (ci := 7) rfl lM_0 sM_0 rfl hl.1 rfl (Nat.le_of_ble_eq_true rfl) dX7_next_73 ⟨Nat.zero_le _, Nat.zero_le _⟩ hW) hA hW.2 (fun H locs hW => ?_)
                  refine lv_iload S.1 S.2.1 dX7_next_76 (lv_at hl 4 rfl) ?_
                  obtain ⟨v29, u28, h⟩ := bP_some h
                  refine fl_doneP (fl_runS S (kX7_has l v27 x4 v29 u28) (va_cwS 2 S.2.2.2.2 (gS q_348 q_349 q_291 q_347) rfl rfl rfl (by decide +kernel) ⟨Nat.le_of_ble_eq_true rfl, Nat.le_of_ble_eq_true rfl⟩) rfl hl.1 rfl (Nat.le_of_ble_eq_true rfl) dX7_next_78 ⟨Nat.zero_le _, Nat.zero_le _⟩) hW (fun H locs hW => ?_)
                  refine lv_if_eq (tgt := 88) S.1 S.2.1 dX7_next_81 (by decide) (fun c30 => ?_) (fun c30 => ?_)
                  · replace h := (if_pos c30).symm.trans h
                    refine lv_iconst (v := (0 : Int32)) S.1 S.2.1 dX7_next_88 (by decide) ?_
                    refine lv_iadd S.1 S.2.1 dX7_next_89 ?_
                    refine lv_istore (lv' := [(5, .int (x5_35 + (0 : Int32))), (3, .int (x3_35 + (1 : Int32))), (0, .ref (ad 0)), (1, .int x1), (2, .int x2), (4, .int x4), (6, .int x6_35)]) S.1 S.2.1 dX7_next_90 hl (by decide) rfl (fun ls hl => ?_)
                    refine lv_iinc (v := x6_35 + (1 : Int32)) (lv' := [(6, .int (x6_35 + (1 : Int32))), (5, .int (x5_35 + (0 : Int32))), (3, .int (x3_35 + (1 : Int32))), (0, .ref (ad 0)), (1, .int x1), (2, .int x2), (4, .int x4)]) S.1 S.2.1 dX7_next_92 hl (k := 6) rfl rfl (by decide) rfl (fun ls hl => ?_)
                    refine lv_goto (tgt := 35) S.1 S.2.1 dX7_next_95 (by decide) ?_
                    exact ih _ _ _ _ _ _ h _ _ _ (lv_sub hl [3, 4, 5, 2, 6, 1, 0] rfl) hW K
                  · replace h := (if_neg c30).symm.trans h
                    refine lv_iconst (v := (1 : Int32)) S.1 S.2.1 dX7_next_84 (by decide) ?_
                    refine lv_goto (tgt := 89) S.1 S.2.1 dX7_next_85 (by decide) ?_
                    refine lv_iadd S.1 S.2.1 dX7_next_89 ?_
                    refine lv_istore (lv' := [(5, .int (x5_35 + (1 : Int32))), (3, .int (x3_35 + (1 : Int32))), (0, .ref (ad 0)), (1, .int x1), (2, .int x2), (4, .int x4), (6, .int x6_35)]) S.1 S.2.1 dX7_next_90 hl (by decide) rfl (fun ls hl => ?_)
                    refine lv_iinc (v := x6_35 + (1 : Int32)) (lv' := [(6, .int (x6_35 + (1 : Int32))), (5, .int (x5_35 + (1 : Int32))), (3, .int (x3_35 + (1 : Int32))), (0, .ref (ad 0)), (1, .int x1), (2, .int x2), (4, .int x4)]) S.1 S.2.1 dX7_next_92 hl (k := 6) rfl rfl (by decide) rfl (fun ls hl => ?_)
                    refine lv_goto (tgt := 35) S.1 S.2.1 dX7_next_95 (by decide) ?_
                    exact ih _ _ _ _ _ _ h _ _ _ (lv_sub hl [3, 4, 5, 2, 6, 1, 0] rfl) hW K
        obtain ⟨w8, w9, w10, u38, h⟩ := b3_some h
        refine L35 50000 _ _ _ _ _ _ u38 _ _ _ (lv_sub hl [3, 4, 5, 1, 6, 2, 0] rfl) hW (fun H locs ls hl hW => ?_)
        clear L35
        refine lv_iload S.1 S.2.1 dX7_next_98 (lv_at hl 5 rfl) ?_
        refine lv_iload_n S.1 S.2.1 dX7_next_100 rfl (lv_at hl 3 rfl) ?_
        refine lv_iload S.1 S.2.1 dX7_next_101 (lv_at hl 5 rfl) ?_
        refine lv_isub S.1 S.2.1 dX7_next_103 ?_
        refine lv_icmp_le (tgt := 112) S.1 S.2.1 dX7_next_104 (by decide) (fun c31 => ?_) (fun c31 => ?_)
        · replace h := (if_pos c31).symm.trans h
          refine lv_iload_n S.1 S.2.1 dX7_next_112 rfl (lv_at hl 3 rfl) ?_
          refine lv_iload S.1 S.2.1 dX7_next_113 (lv_at hl 5 rfl) ?_
          refine lv_isub S.1 S.2.1 dX7_next_115 ?_
          refine lv_istore (lv' := [(6, .int (w8 - w9)), (0, .ref (ad 0)), (1, .int x1), (2, .int x2), (3, .int w8), (4, .int x4), (5, .int w9)]) S.1 S.2.1 dX7_next_116 hl (by decide) rfl (fun ls hl => ?_)
          refine lv_iload S.1 S.2.1 dX7_next_118 (lv_at hl 0 rfl) ?_
          refine lv_iload_n S.1 S.2.1 dX7_next_120 rfl (lv_at hl 3 rfl) ?_
          refine lv_icmp_ge (tgt := 129) S.1 S.2.1 dX7_next_121 (by decide) (fun c32 => ?_) (fun c32 => ?_)
          · replace h := (if_pos c32).symm.trans h
            refine lv_iload_n S.1 S.2.1 dX7_next_129 rfl (lv_at hl 2 rfl) ?_
            refine lv_istore_n (lv' := [(1, .int x1), (6, .int (w8 - w9)), (0, .ref (ad 0)), (2, .int x2), (3, .int w8), (4, .int x4), (5, .int w9)]) S.1 S.2.1 dX7_next_130 rfl hl (by decide) rfl (fun ls hl => ?_)
            refine lv_iload S.1 S.2.1 dX7_next_131 (lv_at hl 1 rfl) ?_
            refine lv_iload_n S.1 S.2.1 dX7_next_133 rfl (lv_at hl 3 rfl) ?_
            refine lv_icmp_ge (tgt := 142) S.1 S.2.1 dX7_next_134 (by decide) (fun c33 => ?_) (fun c33 => ?_)
            · replace h := (if_pos c33).symm.trans h
              refine lv_iload_n S.1 S.2.1 dX7_next_142 rfl (lv_at hl 3 rfl) ?_
              refine lv_istore_n (lv' := [(2, .int x2), (1, .int x1), (6, .int (w8 - w9)), (0, .ref (ad 0)), (3, .int w8), (4, .int x4), (5, .int w9)]) S.1 S.2.1 dX7_next_143 rfl hl (by decide) rfl (fun ls hl => ?_)
              refine lv_iinc (v := x4 + (1 : Int32)) (lv' := [(4, .int (x4 + (1 : Int32))), (2, .int x2), (1, .int x1), (6, .int (w8 - w9)), (0, .ref (ad 0)), (3, .int w8), (5, .int w9)]) S.1 S.2.1 dX7_next_144 hl (k := 5) rfl rfl (by decide) rfl (fun ls hl => ?_)
              refine lv_goto (tgt := 16) S.1 S.2.1 dX7_next_147 (by decide) ?_
              exact ih _ _ _ _ _ _ _ _ h _ _ _ (lv_sub hl [4, 2, 1, 5, 0] rfl) hW K
            · replace h := (if_neg c33).symm.trans h
              refine lv_iload S.1 S.2.1 dX7_next_137 (lv_at hl 1 rfl) ?_
              refine lv_goto (tgt := 143) S.1 S.2.1 dX7_next_139 (by decide) ?_
              refine lv_istore_n (lv' := [(2, .int (w8 - w9)), (1, .int x1), (6, .int (w8 - w9)), (0, .ref (ad 0)), (3, .int w8), (4, .int x4), (5, .int w9)]) S.1 S.2.1 dX7_next_143 rfl hl (by decide) rfl (fun ls hl => ?_)
              refine lv_iinc (v := x4 + (1 : Int32)) (lv' := [(4, .int (x4 + (1 : Int32))), (2, .int (w8 - w9)), (1, .int x1), (6, .int (w8 - w9)), (0, .ref (ad 0)), (3, .int w8), (5, .int w9)]) S.1 S.2.1 dX7_next_144 hl (k := 5) rfl rfl (by decide) rfl (fun ls hl => ?_)
              refine lv_goto (tgt := 16) S.1 S.2.1 dX7_next_147 (by decide) ?_
              exact ih _ _ _ _ _ _ _ _ h _ _ _ (lv_sub hl [4, 2, 1, 5, 0] rfl) hW K
          · replace h := (if_neg c32).symm.trans h
            refine lv_iload S.1 S.2.1 dX7_next_124 (lv_at hl 5 rfl) ?_
            refine lv_goto (tgt := 130) S.1 S.2.1 dX7_next_126 (by decide) ?_
            refine lv_istore_n (lv' := [(1, .int x4), (6, .int (w8 - w9)), (0, .ref (ad 0)), (2, .int x2), (3, .int w8), (4, .int x4), (5, .int w9)]) S.1 S.2.1 dX7_next_130 rfl hl (by decide) rfl (fun ls hl => ?_)
            refine lv_iload S.1 S.2.1 dX7_next_131 (lv_at hl 1 rfl) ?_
            refine lv_iload_n S.1 S.2.1 dX7_next_133 rfl (lv_at hl 3 rfl) ?_
            refine lv_icmp_ge (tgt := 142) S.1 S.2.1 dX7_next_134 (by decide) (fun c34 => ?_) (fun c34 => ?_)
            · replace h := (if_pos c34).symm.trans h
              refine lv_iload_n S.1 S.2.1 dX7_next_142 rfl (lv_at hl 3 rfl) ?_
              refine lv_istore_n (lv' := [(2, .int x2), (1, .int x4), (6, .int (w8 - w9)), (0, .ref (ad 0)), (3, .int w8), (4, .int x4), (5, .int w9)]) S.1 S.2.1 dX7_next_143 rfl hl (by decide) rfl (fun ls hl => ?_)
              refine lv_iinc (v := x4 + (1 : Int32)) (lv' := [(4, .int (x4 + (1 : Int32))), (2, .int x2), (1, .int x4), (6, .int (w8 - w9)), (0, .ref (ad 0)), (3, .int w8), (5, .int w9)]) S.1 S.2.1 dX7_next_144 hl (k := 5) rfl rfl (by decide) rfl (fun ls hl => ?_)
              refine lv_goto (tgt := 16) S.1 S.2.1 dX7_next_147 (by decide) ?_
              exact ih _ _ _ _ _ _ _ _ h _ _ _ (lv_sub hl [4, 2, 1, 5, 0] rfl) hW K
            · replace h := (if_neg c34).symm.trans h
              refine lv_iload S.1 S.2.1 dX7_next_137 (lv_at hl 1 rfl) ?_
              refine lv_goto (tgt := 143) S.1 S.2.1 dX7_next_139 (by decide) ?_
              refine lv_istore_n (lv' := [(2, .int (w8 - w9)), (1, .int x4), (6, .int (w8 - w9)), (0, .ref (ad 0)), (3, .int w8), (4, .int x4), (5, .int w9)]) S.1 S.2.1 dX7_next_143 rfl hl (by decide) rfl (fun ls hl => ?_)
              refine lv_iinc (v := x4 + (1 : Int32)) (lv' := [(4, .int (x4 + (1 : Int32))), (2, .int (w8 - w9)), (1, .int x4), (6, .int (w8 - w9)), (0, .ref (ad 0)), (3, .int w8), (5, .int w9)]) S.1 S.2.1 dX7_next_144 hl (k := 5) rfl rfl (by decide) rfl (fun ls hl => ?_)
              refine lv_goto (tgt := 16) S.1 S.2.1 dX7_next_147 (by decide) ?_
              exact ih _ _ _ _ _ _ _ _ h _ _ _ (lv_sub hl [4, 2, 1, 5, 0] rfl) hW K
        · replace h := (if_neg c31).symm.trans h
          refine lv_iload S.1 S.2.1 dX7_next_107 (lv_at hl 5 rfl) ?_
          refine lv_goto (tgt := 116) S.1 S.2.1 dX7_next_109 (by decide) ?_
          refine lv_istore (lv' := [(6, .int w9), (0, .ref (ad 0)), (1, .int x1), (2, .int x2), (3, .int w8), (4, .int x4), (5, .int w9)]) S.1 S.2.1 dX7_next_116 hl (by decide) rfl (fun ls hl => ?_)
          refine lv_iload S.1 S.2.1 dX7_next_118 (lv_at hl 0 rfl) ?_
          refine lv_iload_n S.1 S.2.1 dX7_next_120 rfl (lv_at hl 3 rfl) ?_
          refine lv_icmp_ge (tgt := 129) S.1 S.2.1 dX7_next_121 (by decide) (fun c35 => ?_) (fun c35 => ?_)
          · replace h := (if_pos c35).symm.trans h
            refine lv_iload_n S.1 S.2.1 dX7_next_129 rfl (lv_at hl 2 rfl) ?_
            refine lv_istore_n (lv' := [(1, .int x1), (6, .int w9), (0, .ref (ad 0)), (2, .int x2), (3, .int w8), (4, .int x4), (5, .int w9)]) S.1 S.2.1 dX7_next_130 rfl hl (by decide) rfl (fun ls hl => ?_)
            refine lv_iload S.1 S.2.1 dX7_next_131 (lv_at hl 1 rfl) ?_
            refine lv_iload_n S.1 S.2.1 dX7_next_133 rfl (lv_at hl 3 rfl) ?_
            refine lv_icmp_ge (tgt := 142) S.1 S.2.1 dX7_next_134 (by decide) (fun c36 => ?_) (fun c36 => ?_)
            · replace h := (if_pos c36).symm.trans h
              refine lv_iload_n S.1 S.2.1 dX7_next_142 rfl (lv_at hl 3 rfl) ?_
              refine lv_istore_n (lv' := [(2, .int x2), (1, .int x1), (6, .int w9), (0, .ref (ad 0)), (3, .int w8), (4, .int x4), (5, .int w9)]) S.1 S.2.1 dX7_next_143 rfl hl (by decide) rfl (fun ls hl => ?_)
              refine lv_iinc (v := x4 + (1 : Int32)) (lv' := [(4, .int (x4 + (1 : Int32))), (2, .int x2), (1, .int x1), (6, .int w9), (0, .ref (ad 0)), (3, .int w8), (5, .int w9)]) S.1 S.2.1 dX7_next_144 hl (k := 5) rfl rfl (by decide) rfl (fun ls hl => ?_)
              refine lv_goto (tgt := 16) S.1 S.2.1 dX7_next_147 (by decide) ?_
              exact ih _ _ _ _ _ _ _ _ h _ _ _ (lv_sub hl [4, 2, 1, 5, 0] rfl) hW K
            · replace h := (if_neg c36).symm.trans h
              refine lv_iload S.1 S.2.1 dX7_next_137 (lv_at hl 1 rfl) ?_
              refine lv_goto (tgt := 143) S.1 S.2.1 dX7_next_139 (by decide) ?_
              refine lv_istore_n (lv' := [(2, .int w9), (1, .int x1), (6, .int w9), (0, .ref (ad 0)), (3, .int w8), (4, .int x4), (5, .int w9)]) S.1 S.2.1 dX7_next_143 rfl hl (by decide) rfl (fun ls hl => ?_)
              refine lv_iinc (v := x4 + (1 : Int32)) (lv' := [(4, .int (x4 + (1 : Int32))), (2, .int w9), (1, .int x1), (6, .int w9), (0, .ref (ad 0)), (3, .int w8), (5, .int w9)]) S.1 S.2.1 dX7_next_144 hl (k := 5) rfl rfl (by decide) rfl (fun ls hl => ?_)
              refine lv_goto (tgt := 16) S.1 S.2.1 dX7_next_147 (by decide) ?_
              exact ih _ _ _ _ _ _ _ _ h _ _ _ (lv_sub hl [4, 2, 1, 5, 0] rfl) hW K
          · replace h := (if_neg c35).symm.trans h
            refine lv_iload S.1 S.2.1 dX7_next_124 (lv_at hl 5 rfl) ?_
            refine lv_goto (tgt := 130) S.1 S.2.1 dX7_next_126 (by decide) ?_
            refine lv_istore_n (lv' := [(1, .int x4), (6, .int w9), (0, .ref (ad 0)), (2, .int x2), (3, .int w8), (4, .int x4), (5, .int w9)]) S.1 S.2.1 dX7_next_130 rfl hl (by decide) rfl (fun ls hl => ?_)
            refine lv_iload S.1 S.2.1 dX7_next_131 (lv_at hl 1 rfl) ?_
            refine lv_iload_n S.1 S.2.1 dX7_next_133 rfl (lv_at hl 3 rfl) ?_
            refine lv_icmp_ge (tgt := 142) S.1 S.2.1 dX7_next_134 (by decide) (fun c37 => ?_) (fun c37 => ?_)
            · replace h := (if_pos c37).symm.trans h
              refine lv_iload_n S.1 S.2.1 dX7_next_142 rfl (lv_at hl 3 rfl) ?_
              refine lv_istore_n (lv' := [(2, .int x2), (1, .int x4), (6, .int w9), (0, .ref (ad 0)), (3, .int w8), (4, .int x4), (5, .int w9)]) S.1 S.2.1 dX7_next_143 rfl hl (by decide) rfl (fun ls hl => ?_)
              refine lv_iinc (v := x4 + (1 : Int32)) (lv' := [(4, .int (x4 + (1 : Int32))), (2, .int x2), (1, .int x4), (6, .int w9), (0, .ref (ad 0)), (3, .int w8), (5, .int w9)]) S.1 S.2.1 dX7_next_144 hl (k := 5) rfl rfl (by decide) rfl (fun ls hl => ?_)
              refine lv_goto (tgt := 16) S.1 S.2.1 dX7_next_147 (by decide) ?_
              exact ih _ _ _ _ _ _ _ _ h _ _ _ (lv_sub hl [4, 2, 1, 5, 0] rfl) hW K
            · replace h := (if_neg c37).symm.trans h
              refine lv_iload S.1 S.2.1 dX7_next_137 (lv_at hl 1 rfl) ?_
              refine lv_goto (tgt := 143) S.1 S.2.1 dX7_next_139 (by decide) ?_
              refine lv_istore_n (lv' := [(2, .int w9), (1, .int x4), (6, .int w9), (0, .ref (ad 0)), (3, .int w8), (4, .int x4), (5, .int w9)]) S.1 S.2.1 dX7_next_143 rfl hl (by decide) rfl (fun ls hl => ?_)
              refine lv_iinc (v := x4 + (1 : Int32)) (lv' := [(4, .int (x4 + (1 : Int32))), (2, .int w9), (1, .int x4), (6, .int w9), (0, .ref (ad 0)), (3, .int w8), (5, .int w9)]) S.1 S.2.1 dX7_next_144 hl (k := 5) rfl rfl (by decide) rfl (fun ls hl => ?_)
              refine lv_goto (tgt := 16) S.1 S.2.1 dX7_next_147 (by decide) ?_
              exact ih _ _ _ _ _ _ _ _ h _ _ _ (lv_sub hl [4, 2, 1, 5, 0] rfl) hW K
  obtain ⟨w3, w4, w5, w6, u40, h⟩ := b4_some h
  refine L16 50000 _ _ _ _ _ _ _ _ u40 _ _ _ (lv_sub hl [4, 3, 2, 1, 0] rfl) hW (fun H locs ls hl hW => ?_)
  clear L16
  refine lv_iload_n S.1 S.2.1 dX7_next_150 rfl (lv_at hl 3 rfl) ?_
  refine lv_iconst (v := (2 : Int32)) S.1 S.2.1 dX7_next_151 (by decide) ?_
  refine lv_icmp_ge (tgt := 160) S.1 S.2.1 dX7_next_152 (by decide) (fun c39 => ?_) (fun c39 => ?_)
  · replace h := (if_pos c39).symm.trans h
    refine lv_iload_n S.1 S.2.1 dX7_next_160 rfl (lv_at hl 1 rfl) ?_
    obtain ⟨rfl, rfl⟩ := s2 h
    exact fl_iret S.1 S.2.1 hr hlocks hW dX7_next_161
  · replace h := (if_neg c39).symm.trans h
    refine lv_bipush (v := (-9 : Int32)) S.1 S.2.1 dX7_next_155 (by decide) ?_
    refine lv_goto (tgt := 161) S.1 S.2.1 dX7_next_157 (by decide) ?_
    obtain ⟨rfl, rfl⟩ := s2 h
    exact fl_iret S.1 S.2.1 hr hlocks hW dX7_next_161
def fX7_rate (p1 : Int32) (p2 : Int32) (M : Mm) : Option (Int32 × Mm) :=
  lt (wI M 0 0 (0 : Int32)) (fun (M1 : Mm) => bP (fX7_in p1 (0 : Int32) (5 : Int32)) (fun (v4 : Int32) => if v4 = 0 then (some ((-1000000 : Int32), M1)) else (bP (fX7_isChild p2 M1) (fun (v7 : Int32) => if v7 = 0 then (some ((-1000000 : Int32), M1)) else (bP (fX7_has (M1.1 6 ((14 : Int32)).toNatClampNeg) p2) (fun (v10 : Int32) => bP (if v10 = 0 then (some (0 : Int32)) else (ix ((15 : Int32) + p2) 21 (some (M1.1 6 ((15 : Int32) + p2).toNatClampNeg)))) (fun (j12 : Int32) => bP (fX7_worksOf p2 M1) (fun (v16 : Int32) => bP (fX7_ones v16) (fun (v18 : Int32) => bP (if p1 = 0 then (some (1 : Int64)) else (if p1 = (1 : Int32) then (some (11 : Int64)) else (if p1 = (2 : Int32) then (some (101 : Int64)) else (if p1 = (3 : Int32) then (some (1011 : Int64)) else (if p1 = (4 : Int32) then (some (10101 : Int64)) else (some (100001 : Int64))))))) (fun (j20 : Int64) => lt (wL M1 (M1.2 + j20)) (fun (M26 : Mm) => if p1 = 0 then (some (j12, M26)) else (if p1 = (1 : Int32) then (some (j12 + (M1.1 6 ((0 : Int32)).toNatClampNeg), M26)) else (if p1 = (2 : Int32) then (some (j12 - v18, M26)) else (if p1 = (3 : Int32) then (some ((2 : Int32) * (j12 + (M1.1 6 ((0 : Int32)).toNatClampNeg)), M26)) else (if p1 = (4 : Int32) then (some ((j12 - v18) + p2, M26)) else (bP (fX7_ones (M26.1 6 ((14 : Int32)).toNatClampNeg)) (fun (v34 : Int32) => some (j12 + v34, M26))))))))))))))))))
set_option maxHeartbeats 4000000 in
set_option maxRecDepth 100000 in
theorem kX7_rate (l : Launch) {D : va_G} {cy : Nat → ClassId} {ad : Nat → Nat} (hJ : Inj ad 15)  (p1 : Int32) (p2 : Int32) (M : Mm) (r : Int32) (M' : Mm) (h : fX7_rate p1 p2 M = some (r, M')) : Met l yX7_rate vX7_rate ({ frames := 3, cells := 0, slots := 0, locals := 66 } : Room) (PcF [.ref (ad 0), .int p1, .int p2] D cy ad kdV shM rfM 15 M) (QcI r D cy ad kdV shM rfM 15 M') 0 0 (AV ad 15) := by
  refine Met.ofW (cc := cX7_rate) (maxL := 6) (ret := (some .int)) (by decide) rfl ?_
  intro p e s m args below meth c s₁ B hml hv
  obtain ⟨rfl, hP, hK, hN⟩ := hv
  have hr := B.returns
  have hlocks := B.notSynchronized
  have S : CallFix p m c cX7_rate 6 s ([.ref (ad 0), .int p1, .int p2] : List Value).toArray vX7_rate RX7 := ⟨B.exec, B.bytes, hml, findClass_of_methodNamed B.named, atoms_spec (ws := vX7_rate) B.pre⟩
  have hq : ∀ w ∈ GW, w.before ([.ref (ad 0), .int p1, .int p2] : List Value).toArray s = true := fun w h => S.2.2.2.2 w (List.mem_cons_of_mem _ h)
  have hA : ∀ k, k < 15 → AV ad 15 (ad k) := fun k hk => ⟨k, hk, rfl⟩
  have hW : WSt D cy ad kdV shM rfM 15 (AV ad 15) M s.heap s.heap [] := ⟨hP, va_S.rf⟩
  clear hP
  have iX7 : ∀ w ∈ wsX70, w ∈ vX7_rate := fun w h => List.mem_cons_of_mem _ (inX7 w h)
  have hl := lv_entry ([.ref (ad 0), .int p1, .int p2]) (n := 6) (Nat.le_of_ble_eq_true rfl)
  rw [lg_entry_eq]
  generalize (lg_sl ([.ref (ad 0), .int p1, .int p2]) ++ List.replicate (6 - (lg_sl ([.ref (ad 0), .int p1, .int p2])).length) Slot.unset).toArray = ls at hl ⊢
  have hl : lv_has ls 6 [(0, .ref (ad 0)), (1, .int p1), (2, .int p2)] := hl
  rw [fX7_rate] at h
  refine lv_aload_n S.1 S.2.1 dX7_rate_0 rfl (lv_at hl 0 rfl) ?_
  refine lv_iconst (v := (0 : Int32)) S.1 S.2.1 dX7_rate_1 (by decide) ?_
  refine fl_put S hK hJ hA tyX7 tyX7_ok nmX7 iX7 rfl lM_0 sM_0 0 (by decide) (hq _ q_287) (fun _ h9 => h9) rfl (ty := .int) rfl rfl rfl (wI M 0 0 (0 : Int32)) (by decide) (fvs_setI _ _ _ _ _ _ _ rfl) (fun j _ hj => cof_wI_ne hj) hW dX7_rate_2 (fun H locs hW => ?_)
  obtain ⟨M1, e2, h⟩ := lt_some h
  rw [e2] at hW
  clear e2
  refine lv_iload_n S.1 S.2.1 dX7_rate_5 rfl (lv_at hl 1 rfl) ?_
  refine lv_iconst (v := (0 : Int32)) S.1 S.2.1 dX7_rate_6 (by decide) ?_
  refine lv_iconst (v := (5 : Int32)) S.1 S.2.1 dX7_rate_7 (by decide) ?_
  obtain ⟨v4, u3, h⟩ := bP_some h
  refine fl_doneP (fl_runS S (kX7_in l p1 (0 : Int32) (5 : Int32) v4 u3) (va_cwS 3 S.2.2.2.2 (gS q_289 q_290 q_291 q_288) rfl rfl rfl (by decide +kernel) ⟨Nat.le_of_ble_eq_true rfl, Nat.le_of_ble_eq_true rfl⟩) rfl hl.1 rfl (Nat.le_of_ble_eq_true rfl) dX7_rate_8 ⟨Nat.zero_le _, Nat.zero_le _⟩) hW (fun H locs hW => ?_)
  refine lv_if_eq (tgt := 22) S.1 S.2.1 dX7_rate_11 (by decide) (fun c5 => ?_) (fun c5 => ?_)
  · replace h := (if_pos c5).symm.trans h
    refine lv_ldc S.1 S.2.1 S.2.2.2.1 (hq _ q_433) dX7_rate_22 ?_
    obtain ⟨rfl, rfl⟩ := s2 h
    exact fl_iret S.1 S.2.1 hr hlocks hW dX7_rate_24
  · replace h := (if_neg c5).symm.trans h
    refine lv_aload_n S.1 S.2.1 dX7_rate_14 rfl (lv_at hl 0 rfl) ?_
    refine lv_iload_n S.1 S.2.1 dX7_rate_15 rfl (lv_at hl 2 rfl) ?_
    obtain ⟨v7, u6, h⟩ := bP_some h
    refine fl_doneI (fl_runV S hK hN (kX7_isChild l hJ p2 M1 v7 u6) (cwV 1 S.2.2.2.2 (gV q_382 q_383 q_384 q_291 q_381) rfl rfl rfl (by decide +kernel) ⟨Nat.le_of_ble_eq_true rfl, Nat.le_of_ble_eq_true rfl⟩) (ci := 7) rfl lM_0 sM_0 rfl hl.1 rfl (Nat.le_of_ble_eq_true rfl) dX7_rate_16 ⟨Nat.zero_le _, Nat.zero_le _⟩ hW) hA hW.2 (fun H locs hW => ?_)
    refine lv_if_ne (tgt := 25) S.1 S.2.1 dX7_rate_19 (by decide) (fun c8 => ?_) (fun c8 => ?_)
    · replace h := (if_neg c8).symm.trans h
      refine lv_aload_n S.1 S.2.1 dX7_rate_25 rfl (lv_at hl 0 rfl) ?_
      refine fl_get S hK iX7 rfl lM_0 sM_0 14 (by decide) (hq _ q_327) (fun _ h9 => h9) (fvs_R rfl rfl) hW dX7_rate_26 ?_
      refine lv_bipush (v := (14 : Int32)) S.1 S.2.1 dX7_rate_29 (by decide) ?_
      refine fl_iald S hK lM_6 sM_6 (vp_dec (i := (14 : Int32)) (n := 21) (by decide)) hW dX7_rate_31 ?_
      refine lv_iload_n S.1 S.2.1 dX7_rate_32 rfl (lv_at hl 2 rfl) ?_
      obtain ⟨v10, u9, h⟩ := bP_some h
      refine fl_doneP (fl_runS S (kX7_has l (M1.1 6 ((14 : Int32)).toNatClampNeg) p2 v10 u9) (va_cwS 2 S.2.2.2.2 (gS q_348 q_349 q_291 q_347) rfl rfl rfl (by decide +kernel) ⟨Nat.le_of_ble_eq_true rfl, Nat.le_of_ble_eq_true rfl⟩) rfl hl.1 rfl (Nat.le_of_ble_eq_true rfl) dX7_rate_33 ⟨Nat.zero_le _, Nat.zero_le _⟩) hW (fun H locs hW => ?_)
      obtain ⟨j12, u36, h⟩ := bP_some h
      have J13 : ∀ (H : Heap) (locs : List Loc) (ls : Array Slot), lv_has ls 6 [(0, .ref (ad 0)), (1, .int p1), (2, .int p2)] → WSt D cy ad kdV shM rfM 15 (AV ad 15) M1 s.heap H locs → W p l e (headSpec vX7_rate ({ frames := 3, cells := 0, slots := 0, locals := 66 } : Room)).room s m ([.ref (ad 0), .int p1, .int p2] : List Value).toArray below meth c H locs 0 0 (MQ below (QcI r D cy ad kdV shM rfM 15 M') ([.ref (ad 0), .int p1, .int p2] : List Value).toArray s 0 0 (AV ad 15)) (F0 m 52 ls [.int j12]) := by
        intro H locs ls hl hW
        refine lv_istore_n (lv' := [(3, .int j12), (0, .ref (ad 0)), (1, .int p1), (2, .int p2)]) S.1 S.2.1 dX7_rate_52 rfl hl (by decide) rfl (fun ls hl => ?_)
        refine lv_iload_n S.1 S.2.1 dX7_rate_53 rfl (lv_at hl 0 rfl) ?_
        refine lv_aload_n S.1 S.2.1 dX7_rate_54 rfl (lv_at hl 1 rfl) ?_
        refine fl_get S hK iX7 rfl lM_0 sM_0 14 (by decide) (hq _ q_327) (fun _ h9 => h9) (fvs_R rfl rfl) hW dX7_rate_55 ?_
        refine lv_iconst (v := (0 : Int32)) S.1 S.2.1 dX7_rate_58 (by decide) ?_
        refine fl_iald S hK lM_6 sM_6 (vp_dec (i := (0 : Int32)) (n := 21) (by decide)) hW dX7_rate_59 ?_
        refine lv_iadd S.1 S.2.1 dX7_rate_60 ?_
        refine lv_istore (lv' := [(4, .int (j12 + (M1.1 6 ((0 : Int32)).toNatClampNeg))), (3, .int j12), (0, .ref (ad 0)), (1, .int p1), (2, .int p2)]) S.1 S.2.1 dX7_rate_61 hl (by decide) rfl (fun ls hl => ?_)
        refine lv_iload_n S.1 S.2.1 dX7_rate_63 rfl (lv_at hl 1 rfl) ?_
        refine lv_aload_n S.1 S.2.1 dX7_rate_64 rfl (lv_at hl 2 rfl) ?_
        refine lv_iload_n S.1 S.2.1 dX7_rate_65 rfl (lv_at hl 4 rfl) ?_
        obtain ⟨v16, u15, h⟩ := bP_some h
        refine fl_doneI (fl_runV S hK hN (kX7_worksOf l hJ p2 M1 v16 u15) (cwV 1 S.2.2.2.2 (gV q_366 q_367 q_368 q_291 q_365) rfl rfl rfl (by decide +kernel) ⟨Nat.le_of_ble_eq_true rfl, Nat.le_of_ble_eq_true rfl⟩) (ci := 7) rfl lM_0 sM_0 rfl hl.1 rfl (Nat.le_of_ble_eq_true rfl) dX7_rate_66 ⟨Nat.zero_le _, Nat.zero_le _⟩ hW) hA hW.2 (fun H locs hW => ?_)
        obtain ⟨v18, u17, h⟩ := bP_some h
        refine fl_doneP (fl_runS S (kX7_ones l v16 v18 u17) (va_cwS 1 S.2.2.2.2 (gS q_351 q_352 q_291 q_350) rfl rfl rfl (by decide +kernel) ⟨Nat.le_of_ble_eq_true rfl, Nat.le_of_ble_eq_true rfl⟩) rfl hl.1 rfl (Nat.le_of_ble_eq_true rfl) dX7_rate_69 ⟨Nat.zero_le _, Nat.zero_le _⟩) hW (fun H locs hW => ?_)
        refine lv_isub S.1 S.2.1 dX7_rate_72 ?_
        refine lv_istore (lv' := [(5, .int (j12 - v18)), (4, .int (j12 + (M1.1 6 ((0 : Int32)).toNatClampNeg))), (3, .int j12), (0, .ref (ad 0)), (1, .int p1), (2, .int p2)]) S.1 S.2.1 dX7_rate_73 hl (by decide) rfl (fun ls hl => ?_)
        refine lv_aload_n S.1 S.2.1 dX7_rate_75 rfl (lv_at hl 3 rfl) ?_
        refine lv_dup S.1 S.2.1 dX7_rate_76 rfl ?_
        refine fl_get S hK iX7 rfl lM_0 sM_0 1 (by decide) (hq _ q_434) (fun _ h9 => h9) (fvs_J rfl) hW dX7_rate_77 ?_
        refine lv_iload_n S.1 S.2.1 dX7_rate_80 rfl (lv_at hl 4 rfl) ?_
        obtain ⟨j20, u35, h⟩ := bP_some h
        have J21 : ∀ (H : Heap) (locs : List Loc) (ls : Array Slot), lv_has ls 6 [(0, .ref (ad 0)), (1, .int p1), (2, .int p2), (3, .int j12), (4, .int (j12 + (M1.1 6 ((0 : Int32)).toNatClampNeg))), (5, .int (j12 - v18))] → WSt D cy ad kdV shM rfM 15 (AV ad 15) M1 s.heap H locs → W p l e (headSpec vX7_rate ({ frames := 3, cells := 0, slots := 0, locals := 66 } : Room)).room s m ([.ref (ad 0), .int p1, .int p2] : List Value).toArray below meth c H locs 0 0 (MQ below (QcI r D cy ad kdV shM rfM 15 M') ([.ref (ad 0), .int p1, .int p2] : List Value).toArray s 0 0 (AV ad 15)) (F0 m 135 ls [.long j20, .long M1.2, .ref (ad 0)]) := by
          intro H locs ls hl hW
          refine lv_ladd S.1 S.2.1 dX7_rate_135 ?_
          refine fl_put S hK hJ hA tyX7 tyX7_ok nmX7 iX7 rfl lM_0 sM_0 1 (by decide) (hq _ q_434) (fun _ h9 => h9) rfl (ty := .long) rfl rfl rfl (wL M1 (M1.2 + j20)) (by decide) (fvs_setL _ rfl uLM) (fun j hj hn => cof_wL (wLM j hj hn)) hW dX7_rate_136 (fun H locs hW => ?_)
          obtain ⟨M26, e27, h⟩ := lt_some h
          rw [e27] at hW
          clear e27
          refine lv_iload_n S.1 S.2.1 dX7_rate_139 rfl (lv_at hl 1 rfl) ?_
          refine lv_if_ne (tgt := 147) S.1 S.2.1 dX7_rate_140 (by decide) (fun c28 => ?_) (fun c28 => ?_)
          · replace h := (if_neg c28).symm.trans h
            refine lv_iload_n S.1 S.2.1 dX7_rate_147 rfl (lv_at hl 1 rfl) ?_
            refine lv_iconst (v := (1 : Int32)) S.1 S.2.1 dX7_rate_148 (by decide) ?_
            refine lv_icmp_ne (tgt := 157) S.1 S.2.1 dX7_rate_149 (by decide) (fun c29 => ?_) (fun c29 => ?_)
            · replace h := (if_neg c29).symm.trans h
              refine lv_iload_n S.1 S.2.1 dX7_rate_157 rfl (lv_at hl 1 rfl) ?_
              refine lv_iconst (v := (2 : Int32)) S.1 S.2.1 dX7_rate_158 (by decide) ?_
              refine lv_icmp_ne (tgt := 167) S.1 S.2.1 dX7_rate_159 (by decide) (fun c30 => ?_) (fun c30 => ?_)
              · replace h := (if_neg c30).symm.trans h
                refine lv_iload_n S.1 S.2.1 dX7_rate_167 rfl (lv_at hl 1 rfl) ?_
                refine lv_iconst (v := (3 : Int32)) S.1 S.2.1 dX7_rate_168 (by decide) ?_
                refine lv_icmp_ne (tgt := 179) S.1 S.2.1 dX7_rate_169 (by decide) (fun c31 => ?_) (fun c31 => ?_)
                · replace h := (if_neg c31).symm.trans h
                  refine lv_iload_n S.1 S.2.1 dX7_rate_179 rfl (lv_at hl 1 rfl) ?_
                  refine lv_iconst (v := (4 : Int32)) S.1 S.2.1 dX7_rate_180 (by decide) ?_
                  refine lv_icmp_ne (tgt := 191) S.1 S.2.1 dX7_rate_181 (by decide) (fun c32 => ?_) (fun c32 => ?_)
                  · replace h := (if_neg c32).symm.trans h
                    refine lv_iload_n S.1 S.2.1 dX7_rate_191 rfl (lv_at hl 3 rfl) ?_
                    refine lv_aload_n S.1 S.2.1 dX7_rate_192 rfl (lv_at hl 0 rfl) ?_
                    refine fl_get S hK iX7 rfl lM_0 sM_0 14 (by decide) (hq _ q_327) (fun _ h9 => h9) (fvs_R rfl rfl) hW dX7_rate_193 ?_
                    refine lv_bipush (v := (14 : Int32)) S.1 S.2.1 dX7_rate_196 (by decide) ?_
                    refine fl_iald S hK lM_6 sM_6 (vp_dec (i := (14 : Int32)) (n := 21) (by decide)) hW dX7_rate_198 ?_
                    obtain ⟨v34, u33, h⟩ := bP_some h
                    refine fl_doneP (fl_runS S (kX7_ones l (M26.1 6 ((14 : Int32)).toNatClampNeg) v34 u33) (va_cwS 1 S.2.2.2.2 (gS q_351 q_352 q_291 q_350) rfl rfl rfl (by decide +kernel) ⟨Nat.le_of_ble_eq_true rfl, Nat.le_of_ble_eq_true rfl⟩) rfl hl.1 rfl (Nat.le_of_ble_eq_true rfl) dX7_rate_199 ⟨Nat.zero_le _, Nat.zero_le _⟩) hW (fun H locs hW => ?_)
                    refine lv_iadd S.1 S.2.1 dX7_rate_202 ?_
                    obtain ⟨rfl, rfl⟩ := s2 h
                    exact fl_iret S.1 S.2.1 hr hlocks hW dX7_rate_203
                  · replace h := (if_pos c32).symm.trans h
                    refine lv_iload S.1 S.2.1 dX7_rate_184 (lv_at hl 5 rfl) ?_
                    refine lv_iload_n S.1 S.2.1 dX7_rate_186 rfl (lv_at hl 2 rfl) ?_
                    refine lv_iadd S.1 S.2.1 dX7_rate_187 ?_
                    refine lv_goto (tgt := 203) S.1 S.2.1 dX7_rate_188 (by decide) ?_
                    obtain ⟨rfl, rfl⟩ := s2 h
                    exact fl_iret S.1 S.2.1 hr hlocks hW dX7_rate_203
                · replace h := (if_pos c31).symm.trans h
                  refine lv_iconst (v := (2 : Int32)) S.1 S.2.1 dX7_rate_172 (by decide) ?_
                  refine lv_iload S.1 S.2.1 dX7_rate_173 (lv_at hl 4 rfl) ?_
                  refine lv_imul S.1 S.2.1 dX7_rate_175 ?_
                  refine lv_goto (tgt := 203) S.1 S.2.1 dX7_rate_176 (by decide) ?_
                  obtain ⟨rfl, rfl⟩ := s2 h
                  exact fl_iret S.1 S.2.1 hr hlocks hW dX7_rate_203
              · replace h := (if_pos c30).symm.trans h
                refine lv_iload S.1 S.2.1 dX7_rate_162 (lv_at hl 5 rfl) ?_
                refine lv_goto (tgt := 203) S.1 S.2.1 dX7_rate_164 (by decide) ?_
                obtain ⟨rfl, rfl⟩ := s2 h
                exact fl_iret S.1 S.2.1 hr hlocks hW dX7_rate_203
            · replace h := (if_pos c29).symm.trans h
              refine lv_iload S.1 S.2.1 dX7_rate_152 (lv_at hl 4 rfl) ?_
              refine lv_goto (tgt := 203) S.1 S.2.1 dX7_rate_154 (by decide) ?_
              obtain ⟨rfl, rfl⟩ := s2 h
              exact fl_iret S.1 S.2.1 hr hlocks hW dX7_rate_203
          · replace h := (if_pos c28).symm.trans h
            refine lv_iload_n S.1 S.2.1 dX7_rate_143 rfl (lv_at hl 3 rfl) ?_
            refine lv_goto (tgt := 203) S.1 S.2.1 dX7_rate_144 (by decide) ?_
            obtain ⟨rfl, rfl⟩ := s2 h
            exact fl_iret S.1 S.2.1 hr hlocks hW dX7_rate_203
        clear h
        have h := u35
        clear u35
        refine lv_if_ne (tgt := 88) S.1 S.2.1 dX7_rate_81 (by decide) (fun c19 => ?_) (fun c19 => ?_)
        · replace h := (if_neg c19).symm.trans h
          refine lv_iload_n S.1 S.2.1 dX7_rate_88 rfl (lv_at hl 4 rfl) ?_
          refine lv_iconst (v := (1 : Int32)) S.1 S.2.1 dX7_rate_89 (by decide) ?_
          refine lv_icmp_ne (tgt := 99) S.1 S.2.1 dX7_rate_90 (by decide) (fun c22 => ?_) (fun c22 => ?_)
          · replace h := (if_neg c22).symm.trans h
            refine lv_iload_n S.1 S.2.1 dX7_rate_99 rfl (lv_at hl 4 rfl) ?_
            refine lv_iconst (v := (2 : Int32)) S.1 S.2.1 dX7_rate_100 (by decide) ?_
            refine lv_icmp_ne (tgt := 110) S.1 S.2.1 dX7_rate_101 (by decide) (fun c23 => ?_) (fun c23 => ?_)
            · replace h := (if_neg c23).symm.trans h
              refine lv_iload_n S.1 S.2.1 dX7_rate_110 rfl (lv_at hl 4 rfl) ?_
              refine lv_iconst (v := (3 : Int32)) S.1 S.2.1 dX7_rate_111 (by decide) ?_
              refine lv_icmp_ne (tgt := 121) S.1 S.2.1 dX7_rate_112 (by decide) (fun c24 => ?_) (fun c24 => ?_)
              · replace h := (if_neg c24).symm.trans h
                refine lv_iload_n S.1 S.2.1 dX7_rate_121 rfl (lv_at hl 4 rfl) ?_
                refine lv_iconst (v := (4 : Int32)) S.1 S.2.1 dX7_rate_122 (by decide) ?_
                refine lv_icmp_ne (tgt := 132) S.1 S.2.1 dX7_rate_123 (by decide) (fun c25 => ?_) (fun c25 => ?_)
                · replace h := (if_neg c25).symm.trans h
                  refine lv_ldc2 S.1 S.2.1 S.2.2.2.1 (hq _ q_439) dX7_rate_132 ?_
                  obtain rfl := s1 h
                  exact J21 _ _ _ (lv_sub hl [3, 4, 5, 2, 1, 0] rfl) hW
                · replace h := (if_pos c25).symm.trans h
                  refine lv_ldc2 S.1 S.2.1 S.2.2.2.1 (hq _ q_438) dX7_rate_126 ?_
                  refine lv_goto (tgt := 135) S.1 S.2.1 dX7_rate_129 (by decide) ?_
                  obtain rfl := s1 h
                  exact J21 _ _ _ (lv_sub hl [3, 4, 5, 2, 1, 0] rfl) hW
              · replace h := (if_pos c24).symm.trans h
                refine lv_ldc2 S.1 S.2.1 S.2.2.2.1 (hq _ q_437) dX7_rate_115 ?_
                refine lv_goto (tgt := 135) S.1 S.2.1 dX7_rate_118 (by decide) ?_
                obtain rfl := s1 h
                exact J21 _ _ _ (lv_sub hl [3, 4, 5, 2, 1, 0] rfl) hW
            · replace h := (if_pos c23).symm.trans h
              refine lv_ldc2 S.1 S.2.1 S.2.2.2.1 (hq _ q_436) dX7_rate_104 ?_
              refine lv_goto (tgt := 135) S.1 S.2.1 dX7_rate_107 (by decide) ?_
              obtain rfl := s1 h
              exact J21 _ _ _ (lv_sub hl [3, 4, 5, 2, 1, 0] rfl) hW
          · replace h := (if_pos c22).symm.trans h
            refine lv_ldc2 S.1 S.2.1 S.2.2.2.1 (hq _ q_435) dX7_rate_93 ?_
            refine lv_goto (tgt := 135) S.1 S.2.1 dX7_rate_96 (by decide) ?_
            obtain rfl := s1 h
            exact J21 _ _ _ (lv_sub hl [3, 4, 5, 2, 1, 0] rfl) hW
        · replace h := (if_pos c19).symm.trans h
          refine lv_lconst (v := (1 : Int64)) S.1 S.2.1 dX7_rate_84 (by decide) ?_
          refine lv_goto (tgt := 135) S.1 S.2.1 dX7_rate_85 (by decide) ?_
          obtain rfl := s1 h
          exact J21 _ _ _ (lv_sub hl [3, 4, 5, 2, 1, 0] rfl) hW
      clear h
      have h := u36
      clear u36
      refine lv_if_eq (tgt := 51) S.1 S.2.1 dX7_rate_36 (by decide) (fun c11 => ?_) (fun c11 => ?_)
      · replace h := (if_pos c11).symm.trans h
        refine lv_iconst (v := (0 : Int32)) S.1 S.2.1 dX7_rate_51 (by decide) ?_
        obtain rfl := s1 h
        exact J13 _ _ _ hl hW
      · replace h := (if_neg c11).symm.trans h
        refine lv_aload_n S.1 S.2.1 dX7_rate_39 rfl (lv_at hl 0 rfl) ?_
        refine fl_get S hK iX7 rfl lM_0 sM_0 14 (by decide) (hq _ q_327) (fun _ h9 => h9) (fvs_R rfl rfl) hW dX7_rate_40 ?_
        refine lv_bipush (v := (15 : Int32)) S.1 S.2.1 dX7_rate_43 (by decide) ?_
        refine lv_iload_n S.1 S.2.1 dX7_rate_45 rfl (lv_at hl 2 rfl) ?_
        refine lv_iadd S.1 S.2.1 dX7_rate_46 ?_
        obtain ⟨g14, h⟩ := ix_some h
        refine fl_iald S hK lM_6 sM_6 g14 hW dX7_rate_47 ?_
        refine lv_goto (tgt := 52) S.1 S.2.1 dX7_rate_48 (by decide) ?_
        obtain rfl := s1 h
        exact J13 _ _ _ hl hW
    · replace h := (if_pos c8).symm.trans h
      refine lv_ldc S.1 S.2.1 S.2.2.2.1 (hq _ q_433) dX7_rate_22 ?_
      obtain ⟨rfl, rfl⟩ := s2 h
      exact fl_iret S.1 S.2.1 hr hlocks hW dX7_rate_24

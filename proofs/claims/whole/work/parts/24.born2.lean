def fX6_rate (p1 : Int32) (p2 : Int32) (M : Mm) : Option (Int32 × Mm) :=
  if p1 < 0 then (some ((-1000000 : Int32), M)) else (if (6 : Int32) ≤ p1 then (some ((-1000000 : Int32), M)) else (bP (fX6_isMother p2 M) (fun (v4 : Int32) => if v4 = 0 then (some ((-1000000 : Int32), M)) else (if p1 = (1 : Int32) then (b2 (fX6_rateAttic p2 M) (fun (v12 : Int32) (M13 : Mm) => some (v12, M13))) else (if p1 = (2 : Int32) then (b2 (fX6_rateCellar p2 M) (fun (v15 : Int32) (M16 : Mm) => some (v15, M16))) else (if p1 = (3 : Int32) then (b2 (fX6_rateGable p2 M) (fun (v18 : Int32) (M19 : Mm) => some (v18, M19))) else (if p1 = (4 : Int32) then (b2 (fX6_rateCrypt p2 M) (fun (v21 : Int32) (M22 : Mm) => some (v21, M22))) else (if p1 = (5 : Int32) then (b2 (fX6_rateCart p2 M) (fun (v24 : Int32) (M25 : Mm) => some (v24, M25))) else (b2 (fX6_rateChild p2 M) (fun (v27 : Int32) (M28 : Mm) => some (v27, M28)))))))))))
set_option maxHeartbeats 4000000 in
set_option maxRecDepth 100000 in
theorem kX6_rate (l : Launch) {D : va_G} {cy : Nat → ClassId} {ad : Nat → Nat} (hJ : Inj ad 80)  (p1 : Int32) (p2 : Int32) (M : Mm) (r : Int32) (M' : Mm) (h : fX6_rate p1 p2 M = some (r, M')) : Met l yX6_rate vX6_rate ({ frames := 6, cells := 0, slots := 0, locals := 130 } : Room) (PcF [.ref (ad 0), .int p1, .int p2] D cy ad kdV shC rfC 80 M) (QcI r D cy ad kdV shC rfC 80 M') 0 0 (AV ad 80) := by
  refine Met.ofW (cc := cX6_rate) (maxL := 3) (ret := (some .int)) (by decide) rfl ?_
  intro p e s m args below meth c s₁ B hml hv
  obtain ⟨rfl, hP, hK, hN⟩ := hv
  have hr := B.returns
  have hlocks := B.notSynchronized
  have S : CallFix p m c cX6_rate 3 s ([.ref (ad 0), .int p1, .int p2] : List Value).toArray vX6_rate RX6 := ⟨B.exec, B.bytes, hml, findClass_of_methodNamed B.named, atoms_spec (ws := vX6_rate) B.pre⟩
  have hq : ∀ w ∈ GW, w.before ([.ref (ad 0), .int p1, .int p2] : List Value).toArray s = true := fun w h => S.2.2.2.2 w (List.mem_cons_of_mem _ h)
  have hA : ∀ k, k < 80 → AV ad 80 (ad k) := fun k hk => ⟨k, hk, rfl⟩
  have hW : WSt D cy ad kdV shC rfC 80 (AV ad 80) M s.heap s.heap [] := ⟨hP, va_S.rf⟩
  clear hP
  have hl := lv_entry ([.ref (ad 0), .int p1, .int p2]) (n := 3) (Nat.le_of_ble_eq_true rfl)
  rw [lg_entry_eq]
  generalize (lg_sl ([.ref (ad 0), .int p1, .int p2]) ++ List.replicate (3 - (lg_sl ([.ref (ad 0), .int p1, .int p2])).length) Slot.unset).toArray = ls at hl ⊢
  have hl : lv_has ls 3 [(0, .ref (ad 0)), (1, .int p1), (2, .int p2)] := hl
  rw [fX6_rate] at h
  refine lv_iload_n S.1 S.2.1 dX6_rate_0 rfl (lv_at hl 1 rfl) ?_
  refine lv_if_lt (tgt := 18) S.1 S.2.1 dX6_rate_1 (by decide) (fun c1 => ?_) (fun c1 => ?_)
  · replace h := (if_pos c1).symm.trans h
    refine lv_ldc S.1 S.2.1 S.2.2.2.1 (hq _ q_270) dX6_rate_18 ?_
    obtain ⟨rfl, rfl⟩ := s2 h
    exact fl_iret S.1 S.2.1 hr hlocks hW dX6_rate_20
  · replace h := (if_neg c1).symm.trans h
    refine lv_iload_n S.1 S.2.1 dX6_rate_4 rfl (lv_at hl 1 rfl) ?_
    refine lv_bipush (v := (6 : Int32)) S.1 S.2.1 dX6_rate_5 (by decide) ?_
    refine lv_icmp_ge (tgt := 18) S.1 S.2.1 dX6_rate_7 (by decide) (fun c2 => ?_) (fun c2 => ?_)
    · replace h := (if_pos c2).symm.trans h
      refine lv_ldc S.1 S.2.1 S.2.2.2.1 (hq _ q_270) dX6_rate_18 ?_
      obtain ⟨rfl, rfl⟩ := s2 h
      exact fl_iret S.1 S.2.1 hr hlocks hW dX6_rate_20
    · replace h := (if_neg c2).symm.trans h
      refine lv_aload_n S.1 S.2.1 dX6_rate_10 rfl (lv_at hl 0 rfl) ?_
      refine lv_iload_n S.1 S.2.1 dX6_rate_11 rfl (lv_at hl 2 rfl) ?_
      obtain ⟨v4, u3, h⟩ := bP_some h
      refine fl_doneI (fl_runV S hK hN (kX6_isMother l hJ p2 M v4 u3) (cwV 1 S.2.2.2.2 (gV q_155 q_156 q_157 q_3 q_154) rfl rfl rfl (by decide +kernel) ⟨Nat.le_of_ble_eq_true rfl, Nat.le_of_ble_eq_true rfl⟩) (ci := 6) rfl lC_0 sC_0 rfl hl.1 rfl (Nat.le_of_ble_eq_true rfl) dX6_rate_12 ⟨Nat.zero_le _, Nat.zero_le _⟩ hW) hA hW.2 (fun H locs hW => ?_)
      refine lv_if_ne (tgt := 21) S.1 S.2.1 dX6_rate_15 (by decide) (fun c5 => ?_) (fun c5 => ?_)
      · replace h := (if_neg c5).symm.trans h
        refine lv_iload_n S.1 S.2.1 dX6_rate_21 rfl (lv_at hl 1 rfl) ?_
        by_cases c6 : p1 = (1 : Int32)
        · replace h := (if_pos c6).symm.trans h
          refine lv_tableIn (off := 34) (tgt := 56) S.1 S.2.1 dX6_rate_22 (by rw [c6]; decide) (by rw [c6]; decide) (by rw [c6]; rfl) (by decide) ?_
          refine lv_aload_n S.1 S.2.1 dX6_rate_56 rfl (lv_at hl 0 rfl) ?_
          refine lv_iload_n S.1 S.2.1 dX6_rate_57 rfl (lv_at hl 2 rfl) ?_
          obtain ⟨v12, M13, u11, h⟩ := b2_some h
          refine fl_doneI (fl_runV S hK hN (kX6_rateAttic l hJ p2 M v12 M13 u11) (cwV 1 S.2.2.2.2 (gV q_261 q_262 q_263 q_3 q_260) rfl rfl rfl (by decide +kernel) ⟨Nat.le_of_ble_eq_true rfl, Nat.le_of_ble_eq_true rfl⟩) (ci := 6) rfl lC_0 sC_0 rfl hl.1 rfl (Nat.le_of_ble_eq_true rfl) dX6_rate_58 ⟨Nat.zero_le _, Nat.zero_le _⟩ hW) hA hW.2 (fun H locs hW => ?_)
          obtain ⟨rfl, rfl⟩ := s2 h
          exact fl_iret S.1 S.2.1 hr hlocks hW dX6_rate_61
        · replace h := (if_neg c6).symm.trans h
          by_cases c7 : p1 = (2 : Int32)
          · replace h := (if_pos c7).symm.trans h
            refine lv_tableIn (off := 40) (tgt := 62) S.1 S.2.1 dX6_rate_22 (by rw [c7]; decide) (by rw [c7]; decide) (by rw [c7]; rfl) (by decide) ?_
            refine lv_aload_n S.1 S.2.1 dX6_rate_62 rfl (lv_at hl 0 rfl) ?_
            refine lv_iload_n S.1 S.2.1 dX6_rate_63 rfl (lv_at hl 2 rfl) ?_
            obtain ⟨v15, M16, u14, h⟩ := b2_some h
            refine fl_doneI (fl_runV S hK hN (kX6_rateCellar l hJ p2 M v15 M16 u14) (cwV 1 S.2.2.2.2 (gV q_266 q_267 q_268 q_3 q_265) rfl rfl rfl (by decide +kernel) ⟨Nat.le_of_ble_eq_true rfl, Nat.le_of_ble_eq_true rfl⟩) (ci := 6) rfl lC_0 sC_0 rfl hl.1 rfl (Nat.le_of_ble_eq_true rfl) dX6_rate_64 ⟨Nat.zero_le _, Nat.zero_le _⟩ hW) hA hW.2 (fun H locs hW => ?_)
            obtain ⟨rfl, rfl⟩ := s2 h
            exact fl_iret S.1 S.2.1 hr hlocks hW dX6_rate_67
          · replace h := (if_neg c7).symm.trans h
            by_cases c8 : p1 = (3 : Int32)
            · replace h := (if_pos c8).symm.trans h
              refine lv_tableIn (off := 46) (tgt := 68) S.1 S.2.1 dX6_rate_22 (by rw [c8]; decide) (by rw [c8]; decide) (by rw [c8]; rfl) (by decide) ?_
              refine lv_aload_n S.1 S.2.1 dX6_rate_68 rfl (lv_at hl 0 rfl) ?_
              refine lv_iload_n S.1 S.2.1 dX6_rate_69 rfl (lv_at hl 2 rfl) ?_
              obtain ⟨v18, M19, u17, h⟩ := b2_some h
              refine fl_doneI (fl_runV S hK hN (kX6_rateGable l hJ p2 M v18 M19 u17) (cwV 1 S.2.2.2.2 (gV q_272 q_273 q_274 q_3 q_271) rfl rfl rfl (by decide +kernel) ⟨Nat.le_of_ble_eq_true rfl, Nat.le_of_ble_eq_true rfl⟩) (ci := 6) rfl lC_0 sC_0 rfl hl.1 rfl (Nat.le_of_ble_eq_true rfl) dX6_rate_70 ⟨Nat.zero_le _, Nat.zero_le _⟩ hW) hA hW.2 (fun H locs hW => ?_)
              obtain ⟨rfl, rfl⟩ := s2 h
              exact fl_iret S.1 S.2.1 hr hlocks hW dX6_rate_73
            · replace h := (if_neg c8).symm.trans h
              by_cases c9 : p1 = (4 : Int32)
              · replace h := (if_pos c9).symm.trans h
                refine lv_tableIn (off := 52) (tgt := 74) S.1 S.2.1 dX6_rate_22 (by rw [c9]; decide) (by rw [c9]; decide) (by rw [c9]; rfl) (by decide) ?_
                refine lv_aload_n S.1 S.2.1 dX6_rate_74 rfl (lv_at hl 0 rfl) ?_
                refine lv_iload_n S.1 S.2.1 dX6_rate_75 rfl (lv_at hl 2 rfl) ?_
                obtain ⟨v21, M22, u20, h⟩ := b2_some h
                refine fl_doneI (fl_runV S hK hN (kX6_rateCrypt l hJ p2 M v21 M22 u20) (cwV 1 S.2.2.2.2 (gV q_276 q_277 q_278 q_3 q_275) rfl rfl rfl (by decide +kernel) ⟨Nat.le_of_ble_eq_true rfl, Nat.le_of_ble_eq_true rfl⟩) (ci := 6) rfl lC_0 sC_0 rfl hl.1 rfl (Nat.le_of_ble_eq_true rfl) dX6_rate_76 ⟨Nat.zero_le _, Nat.zero_le _⟩ hW) hA hW.2 (fun H locs hW => ?_)
                obtain ⟨rfl, rfl⟩ := s2 h
                exact fl_iret S.1 S.2.1 hr hlocks hW dX6_rate_79
              · replace h := (if_neg c9).symm.trans h
                by_cases c10 : p1 = (5 : Int32)
                · replace h := (if_pos c10).symm.trans h
                  refine lv_tableIn (off := 58) (tgt := 80) S.1 S.2.1 dX6_rate_22 (by rw [c10]; decide) (by rw [c10]; decide) (by rw [c10]; rfl) (by decide) ?_
                  refine lv_aload_n S.1 S.2.1 dX6_rate_80 rfl (lv_at hl 0 rfl) ?_
                  refine lv_iload_n S.1 S.2.1 dX6_rate_81 rfl (lv_at hl 2 rfl) ?_
                  obtain ⟨v24, M25, u23, h⟩ := b2_some h
                  refine fl_doneI (fl_runV S hK hN (kX6_rateCart l hJ p2 M v24 M25 u23) (cwV 1 S.2.2.2.2 (gV q_280 q_281 q_282 q_3 q_279) rfl rfl rfl (by decide +kernel) ⟨Nat.le_of_ble_eq_true rfl, Nat.le_of_ble_eq_true rfl⟩) (ci := 6) rfl lC_0 sC_0 rfl hl.1 rfl (Nat.le_of_ble_eq_true rfl) dX6_rate_82 ⟨Nat.zero_le _, Nat.zero_le _⟩ hW) hA hW.2 (fun H locs hW => ?_)
                  obtain ⟨rfl, rfl⟩ := s2 h
                  exact fl_iret S.1 S.2.1 hr hlocks hW dX6_rate_85
                · replace h := (if_neg c10).symm.trans h
                  refine lv_tableOut (tgt := 86) S.1 S.2.1 dX6_rate_22 (tsw1_out (n := 5) (by decide) (by intro k hk; match k, hk with | 0, _ => exact c6 | 1, _ => exact c7 | 2, _ => exact c8 | 3, _ => exact c9 | 4, _ => exact c10 | k + 5, hk => omega)) (by decide) ?_
                  refine lv_aload_n S.1 S.2.1 dX6_rate_86 rfl (lv_at hl 0 rfl) ?_
                  refine lv_iload_n S.1 S.2.1 dX6_rate_87 rfl (lv_at hl 2 rfl) ?_
                  obtain ⟨v27, M28, u26, h⟩ := b2_some h
                  refine fl_doneI (fl_runV S hK hN (kX6_rateChild l hJ p2 M v27 M28 u26) (cwV 1 S.2.2.2.2 (gV q_255 q_256 q_257 q_3 q_254) rfl rfl rfl (by decide +kernel) ⟨Nat.le_of_ble_eq_true rfl, Nat.le_of_ble_eq_true rfl⟩) (ci := 6) rfl lC_0 sC_0 rfl hl.1 rfl (Nat.le_of_ble_eq_true rfl) dX6_rate_88 ⟨Nat.zero_le _, Nat.zero_le _⟩ hW) hA hW.2 (fun H locs hW => ?_)
                  obtain ⟨rfl, rfl⟩ := s2 h
                  exact fl_iret S.1 S.2.1 hr hlocks hW dX6_rate_91
      · replace h := (if_pos c5).symm.trans h
        refine lv_ldc S.1 S.2.1 S.2.2.2.1 (hq _ q_270) dX6_rate_18 ?_
        obtain ⟨rfl, rfl⟩ := s2 h
        exact fl_iret S.1 S.2.1 hr hlocks hW dX6_rate_20
def fX6_keep (p1 : Int32) (M : Mm) : Option (Int32 × Mm) :=
  bP (fX6_isImage p1) (fun (v2 : Int32) => if v2 = 0 then (some ((-1 : Int32), M)) else (ix p1 2 (bP (fX1_become (72 + 4 * (p1).toNatClampNeg) 3 M) (fun (M7 : Mm) => ix p1 2 (lt (wI M7 50 (p1).toNatClampNeg (1 : Int32)) (fun (M9 : Mm) => some (M9.1 3 3, M9)))))))
set_option maxHeartbeats 4000000 in
set_option maxRecDepth 100000 in
theorem kX6_keep (l : Launch) {D : va_G} {cy : Nat → ClassId} {ad : Nat → Nat} (hJ : Inj ad 80)  (p1 : Int32) (M : Mm) (r : Int32) (M' : Mm) (h : fX6_keep p1 M = some (r, M')) : Met l yX6_keep vX6_keep ({ frames := 2, cells := 0, slots := 0, locals := 85 } : Room) (PcF [.ref (ad 0), .int p1] D cy ad kdV shC rfC 80 M) (QcI r D cy ad kdV shC rfC 80 M') 0 0 (AV ad 80) := by
  refine Met.ofW (cc := cX6_keep) (maxL := 2) (ret := (some .int)) (by decide) rfl ?_
  intro p e s m args below meth c s₁ B hml hv
  obtain ⟨rfl, hP, hK, hN⟩ := hv
  have hr := B.returns
  have hlocks := B.notSynchronized
  have S : CallFix p m c cX6_keep 2 s ([.ref (ad 0), .int p1] : List Value).toArray vX6_keep RX6 := ⟨B.exec, B.bytes, hml, findClass_of_methodNamed B.named, atoms_spec (ws := vX6_keep) B.pre⟩
  have hq : ∀ w ∈ GW, w.before ([.ref (ad 0), .int p1] : List Value).toArray s = true := fun w h => S.2.2.2.2 w (List.mem_cons_of_mem _ h)
  have hA : ∀ k, k < 80 → AV ad 80 (ad k) := fun k hk => ⟨k, hk, rfl⟩
  have hW : WSt D cy ad kdV shC rfC 80 (AV ad 80) M s.heap s.heap [] := ⟨hP, va_S.rf⟩
  clear hP
  have iX1 : ∀ w ∈ wsX10, w ∈ vX6_keep := fun w h => List.mem_cons_of_mem _ (inX1 w h)
  have iX6 : ∀ w ∈ wsX60, w ∈ vX6_keep := fun w h => List.mem_cons_of_mem _ (inX6 w h)
  have hl := lv_entry ([.ref (ad 0), .int p1]) (n := 2) (Nat.le_of_ble_eq_true rfl)
  rw [lg_entry_eq]
  generalize (lg_sl ([.ref (ad 0), .int p1]) ++ List.replicate (2 - (lg_sl ([.ref (ad 0), .int p1])).length) Slot.unset).toArray = ls at hl ⊢
  have hl : lv_has ls 2 [(0, .ref (ad 0)), (1, .int p1)] := hl
  rw [fX6_keep] at h
  refine lv_iload_n S.1 S.2.1 dX6_keep_0 rfl (lv_at hl 1 rfl) ?_
  obtain ⟨v2, u1, h⟩ := bP_some h
  refine fl_doneP (fl_runS S (kX6_isImage l p1 v2 u1) (va_cwS 1 S.2.2.2.2 (gS q_284 q_285 q_3 q_283) rfl rfl rfl (by decide +kernel) ⟨Nat.le_of_ble_eq_true rfl, Nat.le_of_ble_eq_true rfl⟩) rfl hl.1 rfl (Nat.le_of_ble_eq_true rfl) dX6_keep_1 ⟨Nat.zero_le _, Nat.zero_le _⟩) hW (fun H locs hW => ?_)
  refine lv_if_ne (tgt := 9) S.1 S.2.1 dX6_keep_4 (by decide) (fun c3 => ?_) (fun c3 => ?_)
  · replace h := (if_neg c3).symm.trans h
    refine lv_aload_n S.1 S.2.1 dX6_keep_9 rfl (lv_at hl 0 rfl) ?_
    refine fl_get S hK iX6 rfl lC_0 sC_0 3 (by decide) (hq _ q_286) (fun _ h9 => h9) (fvs_R rfl rfl) hW dX6_keep_10 ?_
    refine lv_iload_n S.1 S.2.1 dX6_keep_13 rfl (lv_at hl 1 rfl) ?_
    obtain ⟨g4, h⟩ := ix_some h
    have t5k : isM (72 + 4 * (p1).toNatClampNeg) = true := isM_img (vp_lt g4)
    obtain ⟨⟨t5l0, t5s0⟩, ⟨t5l1, t5s1⟩, ⟨t5l2, t5s2⟩, ⟨t5l3, t5s3⟩, t5r0, t5r1, t5r2⟩ := isM_ok t5k
    refine fl_rald S hK lC_49 sC_49 g4 (b := 72 + 4 * (p1).toNatClampNeg) rfl hW dX6_keep_14 ?_
    refine lv_aload_n S.1 S.2.1 dX6_keep_15 rfl (lv_at hl 0 rfl) ?_
    refine fl_get S hK iX6 rfl lC_0 sC_0 1 (by decide) (hq _ q_130) (fun _ h9 => h9) (fvs_R rfl rfl) hW dX6_keep_16 ?_
    obtain ⟨M7, u6, h⟩ := bP_some h
    refine fl_doneV (fl_runVN S hK hN (kX1_become l hJ (72 + 4 * (p1).toNatClampNeg) t5k 3 (rfl : isM 3 = true) M M7 u6) ⟨va_cnB 1 S.2.2.2.2 (gN q_48) rfl rfl rfl (hN.m 34 rfl) (hq _ q_41) (by decide +kernel) ⟨Nat.le_of_ble_eq_true rfl, Nat.le_of_ble_eq_true rfl⟩, (hq _ q_49), (hq _ q_50)⟩ (ci := 1) rfl t5l0 t5s0 rfl hl.1 rfl (Nat.le_of_ble_eq_true rfl) dX6_keep_19 ⟨Nat.zero_le _, Nat.zero_le _⟩ hW) hA hW.2 (fun H locs hW => ?_)
    refine lv_aload_n S.1 S.2.1 dX6_keep_22 rfl (lv_at hl 0 rfl) ?_
    refine fl_get S hK iX6 rfl lC_0 sC_0 4 (by decide) (hq _ q_137) (fun _ h9 => h9) (fvs_R rfl rfl) hW dX6_keep_23 ?_
    refine lv_iload_n S.1 S.2.1 dX6_keep_26 rfl (lv_at hl 1 rfl) ?_
    refine lv_iconst (v := (1 : Int32)) S.1 S.2.1 dX6_keep_27 (by decide) ?_
    obtain ⟨g8, h⟩ := ix_some h
    refine fl_zast S hK hJ hA lC_50 sC_50 g8 (zb_nar (Or.inr rfl)) hW dX6_keep_28 (fun H locs hW => ?_)
    obtain ⟨M9, e10, h⟩ := lt_some h
    rw [e10] at hW
    clear e10
    refine lv_aload_n S.1 S.2.1 dX6_keep_29 rfl (lv_at hl 0 rfl) ?_
    refine fl_get S hK iX6 rfl lC_0 sC_0 1 (by decide) (hq _ q_130) (fun _ h9 => h9) (fvs_R rfl rfl) hW dX6_keep_30 ?_
    refine fl_getN S hK iX1 rfl lC_3 sC_3 3 (by decide) (hN.f 5 rfl) (fun _ h9 => h9) (fvs_I rfl) hW dX6_keep_33 ?_
    obtain ⟨rfl, rfl⟩ := s2 h
    exact fl_iret S.1 S.2.1 hr hlocks hW dX6_keep_36
  · replace h := (if_pos c3).symm.trans h
    refine lv_iconst (v := (-1 : Int32)) S.1 S.2.1 dX6_keep_7 (by decide) ?_
    obtain ⟨rfl, rfl⟩ := s2 h
    exact fl_iret S.1 S.2.1 hr hlocks hW dX6_keep_8
def fX6_back (p1 : Int32) (M : Mm) : Option (Int32 × Mm) :=
  bP (fX6_isImage p1) (fun (v2 : Int32) => if v2 = 0 then (some ((-1 : Int32), M)) else (ix p1 2 (if (M.1 50 (p1).toNatClampNeg) = 0 then (some ((-2 : Int32), M)) else (ix p1 2 (bP (fX1_become 3 (72 + 4 * (p1).toNatClampNeg) M) (fun (M9 : Mm) => lt (wI M9 7 2 (0 : Int32)) (fun (M10 : Mm) => some (M10.1 3 3, M10))))))))
set_option maxHeartbeats 4000000 in
set_option maxRecDepth 100000 in
theorem kX6_back (l : Launch) {D : va_G} {cy : Nat → ClassId} {ad : Nat → Nat} (hJ : Inj ad 80)  (p1 : Int32) (M : Mm) (r : Int32) (M' : Mm) (h : fX6_back p1 M = some (r, M')) : Met l yX6_back vX6_back ({ frames := 2, cells := 0, slots := 0, locals := 85 } : Room) (PcF [.ref (ad 0), .int p1] D cy ad kdV shC rfC 80 M) (QcI r D cy ad kdV shC rfC 80 M') 0 0 (AV ad 80) := by
  refine Met.ofW (cc := cX6_back) (maxL := 2) (ret := (some .int)) (by decide) rfl ?_
  intro p e s m args below meth c s₁ B hml hv
  obtain ⟨rfl, hP, hK, hN⟩ := hv
  have hr := B.returns
  have hlocks := B.notSynchronized
  have S : CallFix p m c cX6_back 2 s ([.ref (ad 0), .int p1] : List Value).toArray vX6_back RX6 := ⟨B.exec, B.bytes, hml, findClass_of_methodNamed B.named, atoms_spec (ws := vX6_back) B.pre⟩
  have hq : ∀ w ∈ GW, w.before ([.ref (ad 0), .int p1] : List Value).toArray s = true := fun w h => S.2.2.2.2 w (List.mem_cons_of_mem _ h)
  have hA : ∀ k, k < 80 → AV ad 80 (ad k) := fun k hk => ⟨k, hk, rfl⟩
  have hW : WSt D cy ad kdV shC rfC 80 (AV ad 80) M s.heap s.heap [] := ⟨hP, va_S.rf⟩
  clear hP
  have iX1 : ∀ w ∈ wsX10, w ∈ vX6_back := fun w h => List.mem_cons_of_mem _ (inX1 w h)
  have iX2 : ∀ w ∈ wsX20, w ∈ vX6_back := fun w h => List.mem_cons_of_mem _ (inX2 w h)
  have iX6 : ∀ w ∈ wsX60, w ∈ vX6_back := fun w h => List.mem_cons_of_mem _ (inX6 w h)
  have hl := lv_entry ([.ref (ad 0), .int p1]) (n := 2) (Nat.le_of_ble_eq_true rfl)
  rw [lg_entry_eq]
  generalize (lg_sl ([.ref (ad 0), .int p1]) ++ List.replicate (2 - (lg_sl ([.ref (ad 0), .int p1])).length) Slot.unset).toArray = ls at hl ⊢
  have hl : lv_has ls 2 [(0, .ref (ad 0)), (1, .int p1)] := hl
  rw [fX6_back] at h
  refine lv_iload_n S.1 S.2.1 dX6_back_0 rfl (lv_at hl 1 rfl) ?_
  obtain ⟨v2, u1, h⟩ := bP_some h
  refine fl_doneP (fl_runS S (kX6_isImage l p1 v2 u1) (va_cwS 1 S.2.2.2.2 (gS q_284 q_285 q_3 q_283) rfl rfl rfl (by decide +kernel) ⟨Nat.le_of_ble_eq_true rfl, Nat.le_of_ble_eq_true rfl⟩) rfl hl.1 rfl (Nat.le_of_ble_eq_true rfl) dX6_back_1 ⟨Nat.zero_le _, Nat.zero_le _⟩) hW (fun H locs hW => ?_)
  refine lv_if_ne (tgt := 9) S.1 S.2.1 dX6_back_4 (by decide) (fun c3 => ?_) (fun c3 => ?_)
  · replace h := (if_neg c3).symm.trans h
    refine lv_aload_n S.1 S.2.1 dX6_back_9 rfl (lv_at hl 0 rfl) ?_
    refine fl_get S hK iX6 rfl lC_0 sC_0 4 (by decide) (hq _ q_137) (fun _ h9 => h9) (fvs_R rfl rfl) hW dX6_back_10 ?_
    refine lv_iload_n S.1 S.2.1 dX6_back_13 rfl (lv_at hl 1 rfl) ?_
    obtain ⟨g4, h⟩ := ix_some h
    refine fl_zald S hK lC_50 sC_50 g4 hW dX6_back_14 ?_
    refine lv_if_ne (tgt := 21) S.1 S.2.1 dX6_back_15 (by decide) (fun c5 => ?_) (fun c5 => ?_)
    · replace h := (if_neg c5).symm.trans h
      refine lv_aload_n S.1 S.2.1 dX6_back_21 rfl (lv_at hl 0 rfl) ?_
      refine fl_get S hK iX6 rfl lC_0 sC_0 1 (by decide) (hq _ q_130) (fun _ h9 => h9) (fvs_R rfl rfl) hW dX6_back_22 ?_
      refine lv_aload_n S.1 S.2.1 dX6_back_25 rfl (lv_at hl 0 rfl) ?_
      refine fl_get S hK iX6 rfl lC_0 sC_0 3 (by decide) (hq _ q_286) (fun _ h9 => h9) (fvs_R rfl rfl) hW dX6_back_26 ?_
      refine lv_iload_n S.1 S.2.1 dX6_back_29 rfl (lv_at hl 1 rfl) ?_
      obtain ⟨g6, h⟩ := ix_some h
      have t7k : isM (72 + 4 * (p1).toNatClampNeg) = true := isM_img (vp_lt g6)
      obtain ⟨⟨t7l0, t7s0⟩, ⟨t7l1, t7s1⟩, ⟨t7l2, t7s2⟩, ⟨t7l3, t7s3⟩, t7r0, t7r1, t7r2⟩ := isM_ok t7k
      refine fl_rald S hK lC_49 sC_49 g6 (b := 72 + 4 * (p1).toNatClampNeg) rfl hW dX6_back_30 ?_
      obtain ⟨M9, u8, h⟩ := bP_some h
      refine fl_doneV (fl_runVN S hK hN (kX1_become l hJ 3 (rfl : isM 3 = true) (72 + 4 * (p1).toNatClampNeg) t7k M M9 u8) ⟨va_cnB 1 S.2.2.2.2 (gN q_48) rfl rfl rfl (hN.m 34 rfl) (hq _ q_41) (by decide +kernel) ⟨Nat.le_of_ble_eq_true rfl, Nat.le_of_ble_eq_true rfl⟩, (hq _ q_49), (hq _ q_50)⟩ (ci := 1) rfl lC_3 sC_3 rfl hl.1 rfl (Nat.le_of_ble_eq_true rfl) dX6_back_31 ⟨Nat.zero_le _, Nat.zero_le _⟩ hW) hA hW.2 (fun H locs hW => ?_)
      refine lv_aload_n S.1 S.2.1 dX6_back_34 rfl (lv_at hl 0 rfl) ?_
      refine fl_get S hK iX6 rfl lC_0 sC_0 2 (by decide) (hq _ q_135) (fun _ h9 => h9) (fvs_R rfl rfl) hW dX6_back_35 ?_
      refine lv_iconst (v := (0 : Int32)) S.1 S.2.1 dX6_back_38 (by decide) ?_
      refine fl_putN S hK hJ hA tyX2 tyX2_ok nmX2 iX2 rfl lC_7 sC_7 2 (by decide) (hN.f 8 rfl) (fun _ h9 => h9) rfl (ty := .int) rfl rfl rfl (wI M9 7 2 (0 : Int32)) (by decide) (fvs_setI _ _ _ _ _ _ _ rfl) (fun j _ hj => cof_wI_ne hj) hW dX6_back_39 (fun H locs hW => ?_)
      obtain ⟨M10, e11, h⟩ := lt_some h
      rw [e11] at hW
      clear e11
      refine lv_aload_n S.1 S.2.1 dX6_back_42 rfl (lv_at hl 0 rfl) ?_
      refine fl_get S hK iX6 rfl lC_0 sC_0 1 (by decide) (hq _ q_130) (fun _ h9 => h9) (fvs_R rfl rfl) hW dX6_back_43 ?_
      refine fl_getN S hK iX1 rfl lC_3 sC_3 3 (by decide) (hN.f 5 rfl) (fun _ h9 => h9) (fvs_I rfl) hW dX6_back_46 ?_
      obtain ⟨rfl, rfl⟩ := s2 h
      exact fl_iret S.1 S.2.1 hr hlocks hW dX6_back_49
    · replace h := (if_pos c5).symm.trans h
      refine lv_bipush (v := (-2 : Int32)) S.1 S.2.1 dX6_back_18 (by decide) ?_
      obtain ⟨rfl, rfl⟩ := s2 h
      exact fl_iret S.1 S.2.1 hr hlocks hW dX6_back_20
  · replace h := (if_pos c3).symm.trans h
    refine lv_iconst (v := (-1 : Int32)) S.1 S.2.1 dX6_back_7 (by decide) ?_
    obtain ⟨rfl, rfl⟩ := s2 h
    exact fl_iret S.1 S.2.1 hr hlocks hW dX6_back_8
def fX6_count (p1 : Int32) (M : Mm) : Option (Int32) :=
  if p1 = (0 : Int32) then (gd (isT (M.1 0 7).toNatClampNeg) (some (M.1 ((M.1 0 7).toNatClampNeg) 4))) else (if p1 = (1 : Int32) then (gd (isT (M.1 0 7).toNatClampNeg) (some (M.1 ((M.1 0 7).toNatClampNeg) 5))) else (if p1 = (2 : Int32) then (gd (isT (M.1 0 7).toNatClampNeg) (some (M.1 ((M.1 0 7).toNatClampNeg) 6))) else (if p1 = (3 : Int32) then (gd (isT (M.1 0 7).toNatClampNeg) (some (M.1 ((M.1 0 7).toNatClampNeg) 7))) else (if p1 = (4 : Int32) then (some (M.1 61 2)) else (if p1 = (5 : Int32) then (some (M.1 1 1)) else (some (-1 : Int32)))))))
set_option maxHeartbeats 4000000 in
set_option maxRecDepth 100000 in
theorem kX6_count (l : Launch) {D : va_G} {cy : Nat → ClassId} {ad : Nat → Nat} (hJ : Inj ad 80)  (p1 : Int32) (M : Mm) (r : Int32) (h : fX6_count p1 M = some r) : Met l yX6_count vX6_count ({ frames := 0, cells := 0, slots := 0, locals := 0 } : Room) (PcF [.ref (ad 0), .int p1] D cy ad kdV shC rfC 80 M) (QcI r D cy ad kdV shC rfC 80 M) 0 0 (AV ad 80) := by
  refine Met.ofW (cc := cX6_count) (maxL := 2) (ret := (some .int)) (by decide) rfl ?_
  intro p e s m args below meth c s₁ B hml hv
  obtain ⟨rfl, hP, hK, hN⟩ := hv
  have hr := B.returns
  have hlocks := B.notSynchronized
  have S : CallFix p m c cX6_count 2 s ([.ref (ad 0), .int p1] : List Value).toArray vX6_count RX6 := ⟨B.exec, B.bytes, hml, findClass_of_methodNamed B.named, atoms_spec (ws := vX6_count) B.pre⟩
  have hq : ∀ w ∈ GW, w.before ([.ref (ad 0), .int p1] : List Value).toArray s = true := fun w h => S.2.2.2.2 w (List.mem_cons_of_mem _ h)
  have hA : ∀ k, k < 80 → AV ad 80 (ad k) := fun k hk => ⟨k, hk, rfl⟩
  have hW : WSt D cy ad kdV shC rfC 80 (AV ad 80) M s.heap s.heap [] := ⟨hP, va_S.rf⟩
  clear hP
  have iX3 : ∀ w ∈ wsX30, w ∈ vX6_count := fun w h => List.mem_cons_of_mem _ (inX3 w h)
  have iX4 : ∀ w ∈ wsX40, w ∈ vX6_count := fun w h => List.mem_cons_of_mem _ (inX4 w h)
  have iX5 : ∀ w ∈ wsX50, w ∈ vX6_count := fun w h => List.mem_cons_of_mem _ (inX5 w h)
  have iX6 : ∀ w ∈ wsX60, w ∈ vX6_count := fun w h => List.mem_cons_of_mem _ (inX6 w h)
  have hl := lv_entry ([.ref (ad 0), .int p1]) (n := 2) (Nat.le_of_ble_eq_true rfl)
  rw [lg_entry_eq]
  generalize (lg_sl ([.ref (ad 0), .int p1]) ++ List.replicate (2 - (lg_sl ([.ref (ad 0), .int p1])).length) Slot.unset).toArray = ls at hl ⊢
  have hl : lv_has ls 2 [(0, .ref (ad 0)), (1, .int p1)] := hl
  rw [fX6_count] at h
  refine lv_iload_n S.1 S.2.1 dX6_count_0 rfl (lv_at hl 1 rfl) ?_
  by_cases c1 : p1 = (0 : Int32)
  · replace h := (if_pos c1).symm.trans h
    refine lv_tableIn (off := 39) (tgt := 40) S.1 S.2.1 dX6_count_1 (by rw [c1]; decide) (by rw [c1]; decide) (by rw [c1]; rfl) (by decide) ?_
    refine lv_aload_n S.1 S.2.1 dX6_count_40 rfl (lv_at hl 0 rfl) ?_
    obtain ⟨t7k, h⟩ := gd_some h
    obtain ⟨⟨t7l0, t7s0⟩, ⟨t7l1, t7s1⟩, ⟨t7l2, t7s2⟩, ⟨t7l3, t7s3⟩, t7r0, t7r1, t7r2⟩ := isT_ok t7k
    refine fl_get S hK iX6 rfl lC_0 sC_0 7 (by decide) (hq _ q_131) (fun _ h9 => h9) (fvs_D rfl) hW dX6_count_41 ?_
    refine fl_getN S hK iX5 rfl t7l0 t7s0 4 (by decide) (hN.f 23 rfl) (fun _ h9 => h9) (fvs_I rfl) hW dX6_count_44 ?_
    obtain rfl := s1 h
    exact fl_iret S.1 S.2.1 hr hlocks hW dX6_count_47
  · replace h := (if_neg c1).symm.trans h
    by_cases c2 : p1 = (1 : Int32)
    · replace h := (if_pos c2).symm.trans h
      refine lv_tableIn (off := 47) (tgt := 48) S.1 S.2.1 dX6_count_1 (by rw [c2]; decide) (by rw [c2]; decide) (by rw [c2]; rfl) (by decide) ?_
      refine lv_aload_n S.1 S.2.1 dX6_count_48 rfl (lv_at hl 0 rfl) ?_
      obtain ⟨t8k, h⟩ := gd_some h
      obtain ⟨⟨t8l0, t8s0⟩, ⟨t8l1, t8s1⟩, ⟨t8l2, t8s2⟩, ⟨t8l3, t8s3⟩, t8r0, t8r1, t8r2⟩ := isT_ok t8k
      refine fl_get S hK iX6 rfl lC_0 sC_0 7 (by decide) (hq _ q_131) (fun _ h9 => h9) (fvs_D rfl) hW dX6_count_49 ?_
      refine fl_getN S hK iX5 rfl t8l0 t8s0 5 (by decide) (hN.f 26 rfl) (fun _ h9 => h9) (fvs_I rfl) hW dX6_count_52 ?_
      obtain rfl := s1 h
      exact fl_iret S.1 S.2.1 hr hlocks hW dX6_count_55
    · replace h := (if_neg c2).symm.trans h
      by_cases c3 : p1 = (2 : Int32)
      · replace h := (if_pos c3).symm.trans h
        refine lv_tableIn (off := 55) (tgt := 56) S.1 S.2.1 dX6_count_1 (by rw [c3]; decide) (by rw [c3]; decide) (by rw [c3]; rfl) (by decide) ?_
        refine lv_aload_n S.1 S.2.1 dX6_count_56 rfl (lv_at hl 0 rfl) ?_
        obtain ⟨t9k, h⟩ := gd_some h
        obtain ⟨⟨t9l0, t9s0⟩, ⟨t9l1, t9s1⟩, ⟨t9l2, t9s2⟩, ⟨t9l3, t9s3⟩, t9r0, t9r1, t9r2⟩ := isT_ok t9k
        refine fl_get S hK iX6 rfl lC_0 sC_0 7 (by decide) (hq _ q_131) (fun _ h9 => h9) (fvs_D rfl) hW dX6_count_57 ?_
        refine fl_getN S hK iX5 rfl t9l0 t9s0 6 (by decide) (hN.f 28 rfl) (fun _ h9 => h9) (fvs_I rfl) hW dX6_count_60 ?_
        obtain rfl := s1 h
        exact fl_iret S.1 S.2.1 hr hlocks hW dX6_count_63
      · replace h := (if_neg c3).symm.trans h
        by_cases c4 : p1 = (3 : Int32)
        · replace h := (if_pos c4).symm.trans h
          refine lv_tableIn (off := 63) (tgt := 64) S.1 S.2.1 dX6_count_1 (by rw [c4]; decide) (by rw [c4]; decide) (by rw [c4]; rfl) (by decide) ?_
          refine lv_aload_n S.1 S.2.1 dX6_count_64 rfl (lv_at hl 0 rfl) ?_
          obtain ⟨t10k, h⟩ := gd_some h
          obtain ⟨⟨t10l0, t10s0⟩, ⟨t10l1, t10s1⟩, ⟨t10l2, t10s2⟩, ⟨t10l3, t10s3⟩, t10r0, t10r1, t10r2⟩ := isT_ok t10k
          refine fl_get S hK iX6 rfl lC_0 sC_0 7 (by decide) (hq _ q_131) (fun _ h9 => h9) (fvs_D rfl) hW dX6_count_65 ?_
          refine fl_getN S hK iX5 rfl t10l0 t10s0 7 (by decide) (hN.f 31 rfl) (fun _ h9 => h9) (fvs_I rfl) hW dX6_count_68 ?_
          obtain rfl := s1 h
          exact fl_iret S.1 S.2.1 hr hlocks hW dX6_count_71
        · replace h := (if_neg c4).symm.trans h
          by_cases c5 : p1 = (4 : Int32)
          · replace h := (if_pos c5).symm.trans h
            refine lv_tableIn (off := 71) (tgt := 72) S.1 S.2.1 dX6_count_1 (by rw [c5]; decide) (by rw [c5]; decide) (by rw [c5]; rfl) (by decide) ?_
            refine lv_aload_n S.1 S.2.1 dX6_count_72 rfl (lv_at hl 0 rfl) ?_
            refine fl_get S hK iX6 rfl lC_0 sC_0 6 (by decide) (hq _ q_136) (fun _ h9 => h9) (fvs_R rfl rfl) hW dX6_count_73 ?_
            refine fl_getN S hK iX3 rfl lC_61 sC_61 2 (by decide) (hN.f 12 rfl) (fun _ h9 => h9) (fvs_I rfl) hW dX6_count_76 ?_
            obtain rfl := s1 h
            exact fl_iret S.1 S.2.1 hr hlocks hW dX6_count_79
          · replace h := (if_neg c5).symm.trans h
            by_cases c6 : p1 = (5 : Int32)
            · replace h := (if_pos c6).symm.trans h
              refine lv_tableIn (off := 79) (tgt := 80) S.1 S.2.1 dX6_count_1 (by rw [c6]; decide) (by rw [c6]; decide) (by rw [c6]; rfl) (by decide) ?_
              refine lv_aload_n S.1 S.2.1 dX6_count_80 rfl (lv_at hl 0 rfl) ?_
              refine fl_get S hK iX6 rfl lC_0 sC_0 0 (by decide) (hq _ q_126) (fun _ h9 => h9) (fvs_R rfl rfl) hW dX6_count_81 ?_
              refine fl_getN S hK iX4 rfl lC_1 sC_1 1 (by decide) (hN.f 0 rfl) (fun _ h9 => h9) (fvs_I rfl) hW dX6_count_84 ?_
              obtain rfl := s1 h
              exact fl_iret S.1 S.2.1 hr hlocks hW dX6_count_87
            · replace h := (if_neg c6).symm.trans h
              refine lv_tableOut (tgt := 88) S.1 S.2.1 dX6_count_1 (tsw_out (n := 6) (by decide) (by intro k hk; match k, hk with | 0, _ => exact c1 | 1, _ => exact c2 | 2, _ => exact c3 | 3, _ => exact c4 | 4, _ => exact c5 | 5, _ => exact c6 | k + 6, hk => omega)) (by decide) ?_
              refine lv_iconst (v := (-1 : Int32)) S.1 S.2.1 dX6_count_88 (by decide) ?_
              obtain rfl := s1 h
              exact fl_iret S.1 S.2.1 hr hlocks hW dX6_count_89
def fX6_trace (M : Mm) : Option (Int64) :=
  some M.2
set_option maxHeartbeats 4000000 in
set_option maxRecDepth 100000 in
theorem kX6_trace (l : Launch) {D : va_G} {cy : Nat → ClassId} {ad : Nat → Nat} (hJ : Inj ad 80)   (M : Mm) (r : Int64) (h : fX6_trace M = some r) : Met l yX6_trace vX6_trace ({ frames := 0, cells := 0, slots := 0, locals := 0 } : Room) (PcF [.ref (ad 0)] D cy ad kdV shC rfC 80 M) (QcL r D cy ad kdV shC rfC 80 M) 0 0 (AV ad 80) := by
  refine Met.ofW (cc := cX6_trace) (maxL := 1) (ret := (some .long)) (by decide) rfl ?_
  intro p e s m args below meth c s₁ B hml hv
  obtain ⟨rfl, hP, hK, hN⟩ := hv
  have hr := B.returns
  have hlocks := B.notSynchronized
  have S : CallFix p m c cX6_trace 1 s ([.ref (ad 0)] : List Value).toArray vX6_trace RX6 := ⟨B.exec, B.bytes, hml, findClass_of_methodNamed B.named, atoms_spec (ws := vX6_trace) B.pre⟩
  have hq : ∀ w ∈ GW, w.before ([.ref (ad 0)] : List Value).toArray s = true := fun w h => S.2.2.2.2 w (List.mem_cons_of_mem _ h)
  have hA : ∀ k, k < 80 → AV ad 80 (ad k) := fun k hk => ⟨k, hk, rfl⟩
  have hW : WSt D cy ad kdV shC rfC 80 (AV ad 80) M s.heap s.heap [] := ⟨hP, va_S.rf⟩
  clear hP
  have iX6 : ∀ w ∈ wsX60, w ∈ vX6_trace := fun w h => List.mem_cons_of_mem _ (inX6 w h)
  have hl := lv_entry ([.ref (ad 0)]) (n := 1) (Nat.le_of_ble_eq_true rfl)
  rw [lg_entry_eq]
  generalize (lg_sl ([.ref (ad 0)]) ++ List.replicate (1 - (lg_sl ([.ref (ad 0)])).length) Slot.unset).toArray = ls at hl ⊢
  have hl : lv_has ls 1 [(0, .ref (ad 0))] := hl
  rw [fX6_trace] at h
  refine lv_aload_n S.1 S.2.1 dX6_trace_0 rfl (lv_at hl 0 rfl) ?_
  refine fl_get S hK iX6 rfl lC_0 sC_0 9 (by decide) (hq _ q_252) (fun _ h9 => h9) (fvs_J rfl) hW dX6_trace_1 ?_
  obtain rfl := s1 h
  exact fl_lret S.1 S.2.1 hr hlocks hW dX6_trace_4

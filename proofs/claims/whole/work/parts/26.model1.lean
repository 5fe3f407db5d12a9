def fX7_isRoom (p1 : Int32) (M : Mm) : Option (Int32) :=
  bP (fX7_in p1 (0 : Int32) ((M.1 2 ((0 : Int32)).toNatClampNeg) - (1 : Int32))) (fun (v2 : Int32) => zb v2 (some v2))
set_option maxHeartbeats 4000000 in
set_option maxRecDepth 100000 in
theorem kX7_isRoom (l : Launch) {D : va_G} {cy : Nat → ClassId} {ad : Nat → Nat} (hJ : Inj ad 15)  (p1 : Int32) (M : Mm) (r : Int32) (h : fX7_isRoom p1 M = some r) : Met l yX7_isRoom vX7_isRoom ({ frames := 1, cells := 0, slots := 0, locals := 22 } : Room) (PcF [.ref (ad 0), .int p1] D cy ad kdV shM rfM 15 M) (QcI r D cy ad kdV shM rfM 15 M) 0 0 (AV ad 15) := by
  refine Met.ofW (cc := cX7_isRoom) (maxL := 2) (ret := (some .boolean)) (by decide) rfl ?_
  intro p e s m args below meth c s₁ B hml hv
  obtain ⟨rfl, hP, hK, hN⟩ := hv
  have hr := B.returns
  have hlocks := B.notSynchronized
  have S : CallFix p m c cX7_isRoom 2 s ([.ref (ad 0), .int p1] : List Value).toArray vX7_isRoom RX7 := ⟨B.exec, B.bytes, hml, findClass_of_methodNamed B.named, atoms_spec (ws := vX7_isRoom) B.pre⟩
  have hq : ∀ w ∈ GW, w.before ([.ref (ad 0), .int p1] : List Value).toArray s = true := fun w h => S.2.2.2.2 w (List.mem_cons_of_mem _ h)
  have hA : ∀ k, k < 15 → AV ad 15 (ad k) := fun k hk => ⟨k, hk, rfl⟩
  have hW : WSt D cy ad kdV shM rfM 15 (AV ad 15) M s.heap s.heap [] := ⟨hP, va_S.rf⟩
  clear hP
  have iX7 : ∀ w ∈ wsX70, w ∈ vX7_isRoom := fun w h => List.mem_cons_of_mem _ (inX7 w h)
  have hl := lv_entry ([.ref (ad 0), .int p1]) (n := 2) (Nat.le_of_ble_eq_true rfl)
  rw [lg_entry_eq]
  generalize (lg_sl ([.ref (ad 0), .int p1]) ++ List.replicate (2 - (lg_sl ([.ref (ad 0), .int p1])).length) Slot.unset).toArray = ls at hl ⊢
  have hl : lv_has ls 2 [(0, .ref (ad 0)), (1, .int p1)] := hl
  rw [fX7_isRoom] at h
  refine lv_iload_n S.1 S.2.1 dX7_isRoom_0 rfl (lv_at hl 1 rfl) ?_
  refine lv_iconst (v := (0 : Int32)) S.1 S.2.1 dX7_isRoom_1 (by decide) ?_
  refine lv_aload_n S.1 S.2.1 dX7_isRoom_2 rfl (lv_at hl 0 rfl) ?_
  refine fl_get S hK iX7 rfl lM_0 sM_0 10 (by decide) (hq _ q_319) (fun _ h9 => h9) (fvs_R rfl rfl) hW dX7_isRoom_3 ?_
  refine lv_iconst (v := (0 : Int32)) S.1 S.2.1 dX7_isRoom_6 (by decide) ?_
  refine fl_iald S hK lM_2 sM_2 (vp_dec (i := (0 : Int32)) (n := 8) (by decide)) hW dX7_isRoom_7 ?_
  refine lv_iconst (v := (1 : Int32)) S.1 S.2.1 dX7_isRoom_8 (by decide) ?_
  refine lv_isub S.1 S.2.1 dX7_isRoom_9 ?_
  obtain ⟨v2, u1, h⟩ := bP_some h
  refine fl_doneP (fl_runS S (kX7_in l p1 (0 : Int32) ((M.1 2 ((0 : Int32)).toNatClampNeg) - (1 : Int32)) v2 u1) (va_cwS 3 S.2.2.2.2 (gS q_289 q_290 q_291 q_288) rfl rfl rfl (by decide +kernel) ⟨Nat.le_of_ble_eq_true rfl, Nat.le_of_ble_eq_true rfl⟩) rfl hl.1 rfl (Nat.le_of_ble_eq_true rfl) dX7_isRoom_10 ⟨Nat.zero_le _, Nat.zero_le _⟩) hW (fun H locs hW => ?_)
  obtain ⟨g3, h⟩ := zb_some h
  obtain rfl := s1 h
  exact fl_zret S.1 S.2.1 hr hlocks g3 hW dX7_isRoom_13
def fX7_isChild (p1 : Int32) (M : Mm) : Option (Int32) :=
  bP (fX7_in p1 (0 : Int32) ((M.1 2 ((1 : Int32)).toNatClampNeg) - (1 : Int32))) (fun (v2 : Int32) => zb v2 (some v2))
set_option maxHeartbeats 4000000 in
set_option maxRecDepth 100000 in
theorem kX7_isChild (l : Launch) {D : va_G} {cy : Nat → ClassId} {ad : Nat → Nat} (hJ : Inj ad 15)  (p1 : Int32) (M : Mm) (r : Int32) (h : fX7_isChild p1 M = some r) : Met l yX7_isChild vX7_isChild ({ frames := 1, cells := 0, slots := 0, locals := 22 } : Room) (PcF [.ref (ad 0), .int p1] D cy ad kdV shM rfM 15 M) (QcI r D cy ad kdV shM rfM 15 M) 0 0 (AV ad 15) := by
  refine Met.ofW (cc := cX7_isChild) (maxL := 2) (ret := (some .boolean)) (by decide) rfl ?_
  intro p e s m args below meth c s₁ B hml hv
  obtain ⟨rfl, hP, hK, hN⟩ := hv
  have hr := B.returns
  have hlocks := B.notSynchronized
  have S : CallFix p m c cX7_isChild 2 s ([.ref (ad 0), .int p1] : List Value).toArray vX7_isChild RX7 := ⟨B.exec, B.bytes, hml, findClass_of_methodNamed B.named, atoms_spec (ws := vX7_isChild) B.pre⟩
  have hq : ∀ w ∈ GW, w.before ([.ref (ad 0), .int p1] : List Value).toArray s = true := fun w h => S.2.2.2.2 w (List.mem_cons_of_mem _ h)
  have hA : ∀ k, k < 15 → AV ad 15 (ad k) := fun k hk => ⟨k, hk, rfl⟩
  have hW : WSt D cy ad kdV shM rfM 15 (AV ad 15) M s.heap s.heap [] := ⟨hP, va_S.rf⟩
  clear hP
  have iX7 : ∀ w ∈ wsX70, w ∈ vX7_isChild := fun w h => List.mem_cons_of_mem _ (inX7 w h)
  have hl := lv_entry ([.ref (ad 0), .int p1]) (n := 2) (Nat.le_of_ble_eq_true rfl)
  rw [lg_entry_eq]
  generalize (lg_sl ([.ref (ad 0), .int p1]) ++ List.replicate (2 - (lg_sl ([.ref (ad 0), .int p1])).length) Slot.unset).toArray = ls at hl ⊢
  have hl : lv_has ls 2 [(0, .ref (ad 0)), (1, .int p1)] := hl
  rw [fX7_isChild] at h
  refine lv_iload_n S.1 S.2.1 dX7_isChild_0 rfl (lv_at hl 1 rfl) ?_
  refine lv_iconst (v := (0 : Int32)) S.1 S.2.1 dX7_isChild_1 (by decide) ?_
  refine lv_aload_n S.1 S.2.1 dX7_isChild_2 rfl (lv_at hl 0 rfl) ?_
  refine fl_get S hK iX7 rfl lM_0 sM_0 10 (by decide) (hq _ q_319) (fun _ h9 => h9) (fvs_R rfl rfl) hW dX7_isChild_3 ?_
  refine lv_iconst (v := (1 : Int32)) S.1 S.2.1 dX7_isChild_6 (by decide) ?_
  refine fl_iald S hK lM_2 sM_2 (vp_dec (i := (1 : Int32)) (n := 8) (by decide)) hW dX7_isChild_7 ?_
  refine lv_iconst (v := (1 : Int32)) S.1 S.2.1 dX7_isChild_8 (by decide) ?_
  refine lv_isub S.1 S.2.1 dX7_isChild_9 ?_
  obtain ⟨v2, u1, h⟩ := bP_some h
  refine fl_doneP (fl_runS S (kX7_in l p1 (0 : Int32) ((M.1 2 ((1 : Int32)).toNatClampNeg) - (1 : Int32)) v2 u1) (va_cwS 3 S.2.2.2.2 (gS q_289 q_290 q_291 q_288) rfl rfl rfl (by decide +kernel) ⟨Nat.le_of_ble_eq_true rfl, Nat.le_of_ble_eq_true rfl⟩) rfl hl.1 rfl (Nat.le_of_ble_eq_true rfl) dX7_isChild_10 ⟨Nat.zero_le _, Nat.zero_le _⟩) hW (fun H locs hW => ?_)
  obtain ⟨g3, h⟩ := zb_some h
  obtain rfl := s1 h
  exact fl_zret S.1 S.2.1 hr hlocks g3 hW dX7_isChild_13
def fX7_isWork (p1 : Int32) (M : Mm) : Option (Int32) :=
  bP (fX7_in p1 (0 : Int32) ((M.1 2 ((2 : Int32)).toNatClampNeg) - (1 : Int32))) (fun (v2 : Int32) => zb v2 (some v2))
set_option maxHeartbeats 4000000 in
set_option maxRecDepth 100000 in
theorem kX7_isWork (l : Launch) {D : va_G} {cy : Nat → ClassId} {ad : Nat → Nat} (hJ : Inj ad 15)  (p1 : Int32) (M : Mm) (r : Int32) (h : fX7_isWork p1 M = some r) : Met l yX7_isWork vX7_isWork ({ frames := 1, cells := 0, slots := 0, locals := 22 } : Room) (PcF [.ref (ad 0), .int p1] D cy ad kdV shM rfM 15 M) (QcI r D cy ad kdV shM rfM 15 M) 0 0 (AV ad 15) := by
  refine Met.ofW (cc := cX7_isWork) (maxL := 2) (ret := (some .boolean)) (by decide) rfl ?_
  intro p e s m args below meth c s₁ B hml hv
  obtain ⟨rfl, hP, hK, hN⟩ := hv
  have hr := B.returns
  have hlocks := B.notSynchronized
  have S : CallFix p m c cX7_isWork 2 s ([.ref (ad 0), .int p1] : List Value).toArray vX7_isWork RX7 := ⟨B.exec, B.bytes, hml, findClass_of_methodNamed B.named, atoms_spec (ws := vX7_isWork) B.pre⟩
  have hq : ∀ w ∈ GW, w.before ([.ref (ad 0), .int p1] : List Value).toArray s = true := fun w h => S.2.2.2.2 w (List.mem_cons_of_mem _ h)
  have hA : ∀ k, k < 15 → AV ad 15 (ad k) := fun k hk => ⟨k, hk, rfl⟩
  have hW : WSt D cy ad kdV shM rfM 15 (AV ad 15) M s.heap s.heap [] := ⟨hP, va_S.rf⟩
  clear hP
  have iX7 : ∀ w ∈ wsX70, w ∈ vX7_isWork := fun w h => List.mem_cons_of_mem _ (inX7 w h)
  have hl := lv_entry ([.ref (ad 0), .int p1]) (n := 2) (Nat.le_of_ble_eq_true rfl)
  rw [lg_entry_eq]
  generalize (lg_sl ([.ref (ad 0), .int p1]) ++ List.replicate (2 - (lg_sl ([.ref (ad 0), .int p1])).length) Slot.unset).toArray = ls at hl ⊢
  have hl : lv_has ls 2 [(0, .ref (ad 0)), (1, .int p1)] := hl
  rw [fX7_isWork] at h
  refine lv_iload_n S.1 S.2.1 dX7_isWork_0 rfl (lv_at hl 1 rfl) ?_
  refine lv_iconst (v := (0 : Int32)) S.1 S.2.1 dX7_isWork_1 (by decide) ?_
  refine lv_aload_n S.1 S.2.1 dX7_isWork_2 rfl (lv_at hl 0 rfl) ?_
  refine fl_get S hK iX7 rfl lM_0 sM_0 10 (by decide) (hq _ q_319) (fun _ h9 => h9) (fvs_R rfl rfl) hW dX7_isWork_3 ?_
  refine lv_iconst (v := (2 : Int32)) S.1 S.2.1 dX7_isWork_6 (by decide) ?_
  refine fl_iald S hK lM_2 sM_2 (vp_dec (i := (2 : Int32)) (n := 8) (by decide)) hW dX7_isWork_7 ?_
  refine lv_iconst (v := (1 : Int32)) S.1 S.2.1 dX7_isWork_8 (by decide) ?_
  refine lv_isub S.1 S.2.1 dX7_isWork_9 ?_
  obtain ⟨v2, u1, h⟩ := bP_some h
  refine fl_doneP (fl_runS S (kX7_in l p1 (0 : Int32) ((M.1 2 ((2 : Int32)).toNatClampNeg) - (1 : Int32)) v2 u1) (va_cwS 3 S.2.2.2.2 (gS q_289 q_290 q_291 q_288) rfl rfl rfl (by decide +kernel) ⟨Nat.le_of_ble_eq_true rfl, Nat.le_of_ble_eq_true rfl⟩) rfl hl.1 rfl (Nat.le_of_ble_eq_true rfl) dX7_isWork_10 ⟨Nat.zero_le _, Nat.zero_le _⟩) hW (fun H locs hW => ?_)
  obtain ⟨g3, h⟩ := zb_some h
  obtain rfl := s1 h
  exact fl_zret S.1 S.2.1 hr hlocks g3 hW dX7_isWork_13
def fX7_joinedWith_L4 (p1 : Int32) (M : Mm) : Nat → Int32 → Int32 → Option (Int32 × Int32)
  | 0, _, _ => none
  | n + 1, x2, x3 => if (M.1 2 ((0 : Int32)).toNatClampNeg) ≤ x3 then (some (x2, x3)) else (ix ((7 : Int32) + x3) 21 (ix ((7 : Int32) + p1) 21 (if (M.1 6 ((7 : Int32) + x3).toNatClampNeg) = (M.1 6 ((7 : Int32) + p1).toNatClampNeg) then (fX7_joinedWith_L4 p1 M n (x2 ||| ((1 : Int32) <<< (x3 &&& 31))) (x3 + (1 : Int32))) else (fX7_joinedWith_L4 p1 M n (x2 ||| (0 : Int32)) (x3 + (1 : Int32))))))
def fX7_joinedWith (p1 : Int32) (M : Mm) : Option (Int32) :=
  b2 (fX7_joinedWith_L4 p1 M 50000 (0 : Int32) (0 : Int32)) (fun (w1 : Int32) (w2 : Int32) => some w1)
set_option maxHeartbeats 4000000 in
set_option maxRecDepth 100000 in
theorem kX7_joinedWith (l : Launch) {D : va_G} {cy : Nat → ClassId} {ad : Nat → Nat} (hJ : Inj ad 15)  (p1 : Int32) (M : Mm) (r : Int32) (h : fX7_joinedWith p1 M = some r) : Met l yX7_joinedWith vX7_joinedWith ({ frames := 0, cells := 0, slots := 0, locals := 0 } : Room) (PcF [.ref (ad 0), .int p1] D cy ad kdV shM rfM 15 M) (QcI r D cy ad kdV shM rfM 15 M) 0 0 (AV ad 15) := by
  refine Met.ofW (cc := cX7_joinedWith) (maxL := 4) (ret := (some .int)) (by decide) rfl ?_
  intro p e s m args below meth c s₁ B hml hv
  obtain ⟨rfl, hP, hK, hN⟩ := hv
  have hr := B.returns
  have hlocks := B.notSynchronized
  have S : CallFix p m c cX7_joinedWith 4 s ([.ref (ad 0), .int p1] : List Value).toArray vX7_joinedWith RX7 := ⟨B.exec, B.bytes, hml, findClass_of_methodNamed B.named, atoms_spec (ws := vX7_joinedWith) B.pre⟩
  have hq : ∀ w ∈ GW, w.before ([.ref (ad 0), .int p1] : List Value).toArray s = true := fun w h => S.2.2.2.2 w (List.mem_cons_of_mem _ h)
  have hA : ∀ k, k < 15 → AV ad 15 (ad k) := fun k hk => ⟨k, hk, rfl⟩
  have hW : WSt D cy ad kdV shM rfM 15 (AV ad 15) M s.heap s.heap [] := ⟨hP, va_S.rf⟩
  clear hP
  have iX7 : ∀ w ∈ wsX70, w ∈ vX7_joinedWith := fun w h => List.mem_cons_of_mem _ (inX7 w h)
  have hl := lv_entry ([.ref (ad 0), .int p1]) (n := 4) (Nat.le_of_ble_eq_true rfl)
  rw [lg_entry_eq]
  generalize (lg_sl ([.ref (ad 0), .int p1]) ++ List.replicate (4 - (lg_sl ([.ref (ad 0), .int p1])).length) Slot.unset).toArray = ls at hl ⊢
  have hl : lv_has ls 4 [(0, .ref (ad 0)), (1, .int p1)] := hl
  rw [fX7_joinedWith] at h
  refine lv_iconst (v := (0 : Int32)) S.1 S.2.1 dX7_joinedWith_0 (by decide) ?_
  refine lv_istore_n (lv' := [(2, .int (0 : Int32)), (0, .ref (ad 0)), (1, .int p1)]) S.1 S.2.1 dX7_joinedWith_1 rfl hl (by decide) rfl (fun ls hl => ?_)
  refine lv_iconst (v := (0 : Int32)) S.1 S.2.1 dX7_joinedWith_2 (by decide) ?_
  refine lv_istore_n (lv' := [(3, .int (0 : Int32)), (2, .int (0 : Int32)), (0, .ref (ad 0)), (1, .int p1)]) S.1 S.2.1 dX7_joinedWith_3 rfl hl (by decide) rfl (fun ls hl => ?_)
  have L4 : ∀ (n : Nat) (x2 : Int32) (x3 : Int32) (w1 : Int32) (w2 : Int32), fX7_joinedWith_L4 p1 M n x2 x3 = some (w1, w2) → ∀ (H : Heap) (locs : List Loc) (ls : Array Slot), lv_has ls 4 [(0, .ref (ad 0)), (1, .int p1), (2, .int x2), (3, .int x3)] → WSt D cy ad kdV shM rfM 15 (AV ad 15) M s.heap H locs → (∀ (H : Heap) (locs : List Loc) (ls : Array Slot), lv_has ls 4 [(0, .ref (ad 0)), (1, .int p1), (2, .int w1), (3, .int w2)] → WSt D cy ad kdV shM rfM 15 (AV ad 15) M s.heap H locs → W p l e (headSpec vX7_joinedWith ({ frames := 0, cells := 0, slots := 0, locals := 0 } : Room)).room s m ([.ref (ad 0), .int p1] : List Value).toArray below meth c H locs 0 0 (MQ below (QcI r D cy ad kdV shM rfM 15 M) ([.ref (ad 0), .int p1] : List Value).toArray s 0 0 (AV ad 15)) (F0 m 51 ls [])) → W p l e (headSpec vX7_joinedWith ({ frames := 0, cells := 0, slots := 0, locals := 0 } : Room)).room s m ([.ref (ad 0), .int p1] : List Value).toArray below meth c H locs 0 0 (MQ below (QcI r D cy ad kdV shM rfM 15 M) ([.ref (ad 0), .int p1] : List Value).toArray s 0 0 (AV ad 15)) (F0 m 4 ls []) := by
    intro n
    induction n with
    | zero => intro x2 x3 w1 w2 h; cases h
    | succ n ih =>
      intro x2 x3 w1 w2 h H locs ls hl hW K
      rw [fX7_joinedWith_L4] at h
      refine lv_iload_n S.1 S.2.1 dX7_joinedWith_4 rfl (lv_at hl 3 rfl) ?_
      refine lv_aload_n S.1 S.2.1 dX7_joinedWith_5 rfl (lv_at hl 0 rfl) ?_
      refine fl_get S hK iX7 rfl lM_0 sM_0 10 (by decide) (hq _ q_319) (fun _ h9 => h9) (fvs_R rfl rfl) hW dX7_joinedWith_6 ?_
      refine lv_iconst (v := (0 : Int32)) S.1 S.2.1 dX7_joinedWith_9 (by decide) ?_
      refine fl_iald S hK lM_2 sM_2 (vp_dec (i := (0 : Int32)) (n := 8) (by decide)) hW dX7_joinedWith_10 ?_
      refine lv_icmp_ge (tgt := 51) S.1 S.2.1 dX7_joinedWith_11 (by decide) (fun c3 => ?_) (fun c3 => ?_)
      · replace h := (if_pos c3).symm.trans h
        obtain ⟨rfl, rfl⟩ := s2 h
        exact K _ _ _ hl hW
      · replace h := (if_neg c3).symm.trans h
        refine lv_iload_n S.1 S.2.1 dX7_joinedWith_14 rfl (lv_at hl 2 rfl) ?_
        refine lv_aload_n S.1 S.2.1 dX7_joinedWith_15 rfl (lv_at hl 0 rfl) ?_
        refine fl_get S hK iX7 rfl lM_0 sM_0 14 (by decide) (hq _ q_327) (fun _ h9 => h9) (fvs_R rfl rfl) hW dX7_joinedWith_16 ?_
        refine lv_bipush (v := (7 : Int32)) S.1 S.2.1 dX7_joinedWith_19 (by decide) ?_
        refine lv_iload_n S.1 S.2.1 dX7_joinedWith_21 rfl (lv_at hl 3 rfl) ?_
        refine lv_iadd S.1 S.2.1 dX7_joinedWith_22 ?_
        obtain ⟨g4, h⟩ := ix_some h
        refine fl_iald S hK lM_6 sM_6 g4 hW dX7_joinedWith_23 ?_
        refine lv_aload_n S.1 S.2.1 dX7_joinedWith_24 rfl (lv_at hl 0 rfl) ?_
        refine fl_get S hK iX7 rfl lM_0 sM_0 14 (by decide) (hq _ q_327) (fun _ h9 => h9) (fvs_R rfl rfl) hW dX7_joinedWith_25 ?_
        refine lv_bipush (v := (7 : Int32)) S.1 S.2.1 dX7_joinedWith_28 (by decide) ?_
        refine lv_iload_n S.1 S.2.1 dX7_joinedWith_30 rfl (lv_at hl 1 rfl) ?_
        refine lv_iadd S.1 S.2.1 dX7_joinedWith_31 ?_
        obtain ⟨g5, h⟩ := ix_some h
        refine fl_iald S hK lM_6 sM_6 g5 hW dX7_joinedWith_32 ?_
        refine lv_icmp_ne (tgt := 42) S.1 S.2.1 dX7_joinedWith_33 (by decide) (fun c6 => ?_) (fun c6 => ?_)
        · replace h := (if_neg c6).symm.trans h
          refine lv_iconst (v := (0 : Int32)) S.1 S.2.1 dX7_joinedWith_42 (by decide) ?_
          refine lv_ior S.1 S.2.1 dX7_joinedWith_43 ?_
          refine lv_istore_n (lv' := [(2, .int (x2 ||| (0 : Int32))), (0, .ref (ad 0)), (1, .int p1), (3, .int x3)]) S.1 S.2.1 dX7_joinedWith_44 rfl hl (by decide) rfl (fun ls hl => ?_)
          refine lv_iinc (v := x3 + (1 : Int32)) (lv' := [(3, .int (x3 + (1 : Int32))), (2, .int (x2 ||| (0 : Int32))), (0, .ref (ad 0)), (1, .int p1)]) S.1 S.2.1 dX7_joinedWith_45 hl (k := 3) rfl rfl (by decide) rfl (fun ls hl => ?_)
          refine lv_goto (tgt := 4) S.1 S.2.1 dX7_joinedWith_48 (by decide) ?_
          exact ih _ _ _ _ h _ _ _ (lv_sub hl [2, 3, 1, 0] rfl) hW K
        · replace h := (if_pos c6).symm.trans h
          refine lv_iconst (v := (1 : Int32)) S.1 S.2.1 dX7_joinedWith_36 (by decide) ?_
          refine lv_iload_n S.1 S.2.1 dX7_joinedWith_37 rfl (lv_at hl 3 rfl) ?_
          refine lv_ishl S.1 S.2.1 dX7_joinedWith_38 ?_
          refine lv_goto (tgt := 43) S.1 S.2.1 dX7_joinedWith_39 (by decide) ?_
          refine lv_ior S.1 S.2.1 dX7_joinedWith_43 ?_
          refine lv_istore_n (lv' := [(2, .int (x2 ||| ((1 : Int32) <<< (x3 &&& 31)))), (0, .ref (ad 0)), (1, .int p1), (3, .int x3)]) S.1 S.2.1 dX7_joinedWith_44 rfl hl (by decide) rfl (fun ls hl => ?_)
          refine lv_iinc (v := x3 + (1 : Int32)) (lv' := [(3, .int (x3 + (1 : Int32))), (2, .int (x2 ||| ((1 : Int32) <<< (x3 &&& 31)))), (0, .ref (ad 0)), (1, .int p1)]) S.1 S.2.1 dX7_joinedWith_45 hl (k := 3) rfl rfl (by decide) rfl (fun ls hl => ?_)
          refine lv_goto (tgt := 4) S.1 S.2.1 dX7_joinedWith_48 (by decide) ?_
          exact ih _ _ _ _ h _ _ _ (lv_sub hl [2, 3, 1, 0] rfl) hW K
  obtain ⟨w1, w2, u7, h⟩ := b2_some h
  refine L4 50000 _ _ _ _ u7 _ _ _ (lv_sub hl [2, 3, 1, 0] rfl) hW (fun H locs ls hl hW => ?_)
  clear L4
  refine lv_iload_n S.1 S.2.1 dX7_joinedWith_51 rfl (lv_at hl 2 rfl) ?_
  obtain rfl := s1 h
  exact fl_iret S.1 S.2.1 hr hlocks hW dX7_joinedWith_52
def fX7_ageBy_L4 (p1 : Int32) (M : Mm) : Nat → Int32 → Int32 → Option (Int32 × Int32)
  | 0, _, _ => none
  | n + 1, x2, x3 => if (M.1 2 ((0 : Int32)).toNatClampNeg) ≤ x3 then (some (x2, x3)) else (bP (fX7_has p1 x3) (fun (v5 : Int32) => if v5 = 0 then (fX7_ageBy_L4 p1 M n (x2 + (0 : Int32)) (x3 + (1 : Int32))) else (ix ((1 : Int32) + x3) 21 (fX7_ageBy_L4 p1 M n (x2 + (M.1 6 ((1 : Int32) + x3).toNatClampNeg)) (x3 + (1 : Int32))))))
def fX7_ageBy (p1 : Int32) (M : Mm) : Option (Int32) :=
  b2 (fX7_ageBy_L4 p1 M 50000 (0 : Int32) (0 : Int32)) (fun (w1 : Int32) (w2 : Int32) => bP (fX7_ones p1) (fun (v9 : Int32) => nz v9 (some (w1 / v9))))
set_option maxHeartbeats 4000000 in
set_option maxRecDepth 100000 in
theorem kX7_ageBy (l : Launch) {D : va_G} {cy : Nat → ClassId} {ad : Nat → Nat} (hJ : Inj ad 15)  (p1 : Int32) (M : Mm) (r : Int32) (h : fX7_ageBy p1 M = some r) : Met l yX7_ageBy vX7_ageBy ({ frames := 1, cells := 0, slots := 0, locals := 22 } : Room) (PcF [.ref (ad 0), .int p1] D cy ad kdV shM rfM 15 M) (QcI r D cy ad kdV shM rfM 15 M) 0 0 (AV ad 15) := by
  refine Met.ofW (cc := cX7_ageBy) (maxL := 4) (ret := (some .int)) (by decide) rfl ?_
  intro p e s m args below meth c s₁ B hml hv
  obtain ⟨rfl, hP, hK, hN⟩ := hv
  have hr := B.returns
  have hlocks := B.notSynchronized
  have S : CallFix p m c cX7_ageBy 4 s ([.ref (ad 0), .int p1] : List Value).toArray vX7_ageBy RX7 := ⟨B.exec, B.bytes, hml, findClass_of_methodNamed B.named, atoms_spec (ws := vX7_ageBy) B.pre⟩
  have hq : ∀ w ∈ GW, w.before ([.ref (ad 0), .int p1] : List Value).toArray s = true := fun w h => S.2.2.2.2 w (List.mem_cons_of_mem _ h)
  have hA : ∀ k, k < 15 → AV ad 15 (ad k) := fun k hk => ⟨k, hk, rfl⟩
  have hW : WSt D cy ad kdV shM rfM 15 (AV ad 15) M s.heap s.heap [] := ⟨hP, va_S.rf⟩
  clear hP
  have iX7 : ∀ w ∈ wsX70, w ∈ vX7_ageBy := fun w h => List.mem_cons_of_mem _ (inX7 w h)
  have hl := lv_entry ([.ref (ad 0), .int p1]) (n := 4) (Nat.le_of_ble_eq_true rfl)
  rw [lg_entry_eq]
  generalize (lg_sl ([.ref (ad 0), .int p1]) ++ List.replicate (4 - (lg_sl ([.ref (ad 0), .int p1])).length) Slot.unset).toArray = ls at hl ⊢
  have hl : lv_has ls 4 [(0, .ref (ad 0)), (1, .int p1)] := hl
  rw [fX7_ageBy] at h
  refine lv_iconst (v := (0 : Int32)) S.1 S.2.1 dX7_ageBy_0 (by decide) ?_
  refine lv_istore_n (lv' := [(2, .int (0 : Int32)), (0, .ref (ad 0)), (1, .int p1)]) S.1 S.2.1 dX7_ageBy_1 rfl hl (by decide) rfl (fun ls hl => ?_)
  refine lv_iconst (v := (0 : Int32)) S.1 S.2.1 dX7_ageBy_2 (by decide) ?_
  refine lv_istore_n (lv' := [(3, .int (0 : Int32)), (2, .int (0 : Int32)), (0, .ref (ad 0)), (1, .int p1)]) S.1 S.2.1 dX7_ageBy_3 rfl hl (by decide) rfl (fun ls hl => ?_)
  have L4 : ∀ (n : Nat) (x2 : Int32) (x3 : Int32) (w1 : Int32) (w2 : Int32), fX7_ageBy_L4 p1 M n x2 x3 = some (w1, w2) → ∀ (H : Heap) (locs : List Loc) (ls : Array Slot), lv_has ls 4 [(0, .ref (ad 0)), (1, .int p1), (2, .int x2), (3, .int x3)] → WSt D cy ad kdV shM rfM 15 (AV ad 15) M s.heap H locs → (∀ (H : Heap) (locs : List Loc) (ls : Array Slot), lv_has ls 4 [(0, .ref (ad 0)), (1, .int p1), (2, .int w1), (3, .int w2)] → WSt D cy ad kdV shM rfM 15 (AV ad 15) M s.heap H locs → W p l e (headSpec vX7_ageBy ({ frames := 1, cells := 0, slots := 0, locals := 22 } : Room)).room s m ([.ref (ad 0), .int p1] : List Value).toArray below meth c H locs 0 0 (MQ below (QcI r D cy ad kdV shM rfM 15 M) ([.ref (ad 0), .int p1] : List Value).toArray s 0 0 (AV ad 15)) (F0 m 43 ls [])) → W p l e (headSpec vX7_ageBy ({ frames := 1, cells := 0, slots := 0, locals := 22 } : Room)).room s m ([.ref (ad 0), .int p1] : List Value).toArray below meth c H locs 0 0 (MQ below (QcI r D cy ad kdV shM rfM 15 M) ([.ref (ad 0), .int p1] : List Value).toArray s 0 0 (AV ad 15)) (F0 m 4 ls []) := by
    intro n
    induction n with
    | zero => intro x2 x3 w1 w2 h; cases h
    | succ n ih =>
      intro x2 x3 w1 w2 h H locs ls hl hW K
      rw [fX7_ageBy_L4] at h
      refine lv_iload_n S.1 S.2.1 dX7_ageBy_4 rfl (lv_at hl 3 rfl) ?_
      refine lv_aload_n S.1 S.2.1 dX7_ageBy_5 rfl (lv_at hl 0 rfl) ?_
      refine fl_get S hK iX7 rfl lM_0 sM_0 10 (by decide) (hq _ q_319) (fun _ h9 => h9) (fvs_R rfl rfl) hW dX7_ageBy_6 ?_
      refine lv_iconst (v := (0 : Int32)) S.1 S.2.1 dX7_ageBy_9 (by decide) ?_
      refine fl_iald S hK lM_2 sM_2 (vp_dec (i := (0 : Int32)) (n := 8) (by decide)) hW dX7_ageBy_10 ?_
      refine lv_icmp_ge (tgt := 43) S.1 S.2.1 dX7_ageBy_11 (by decide) (fun c3 => ?_) (fun c3 => ?_)
      · replace h := (if_pos c3).symm.trans h
        obtain ⟨rfl, rfl⟩ := s2 h
        exact K _ _ _ hl hW
      · replace h := (if_neg c3).symm.trans h
        refine lv_iload_n S.1 S.2.1 dX7_ageBy_14 rfl (lv_at hl 2 rfl) ?_
        refine lv_iload_n S.1 S.2.1 dX7_ageBy_15 rfl (lv_at hl 1 rfl) ?_
        refine lv_iload_n S.1 S.2.1 dX7_ageBy_16 rfl (lv_at hl 3 rfl) ?_
        obtain ⟨v5, u4, h⟩ := bP_some h
        refine fl_doneP (fl_runS S (kX7_has l p1 x3 v5 u4) (va_cwS 2 S.2.2.2.2 (gS q_348 q_349 q_291 q_347) rfl rfl rfl (by decide +kernel) ⟨Nat.le_of_ble_eq_true rfl, Nat.le_of_ble_eq_true rfl⟩) rfl hl.1 rfl (Nat.le_of_ble_eq_true rfl) dX7_ageBy_17 ⟨Nat.zero_le _, Nat.zero_le _⟩) hW (fun H locs hW => ?_)
        refine lv_if_eq (tgt := 34) S.1 S.2.1 dX7_ageBy_20 (by decide) (fun c6 => ?_) (fun c6 => ?_)
        · replace h := (if_pos c6).symm.trans h
          refine lv_iconst (v := (0 : Int32)) S.1 S.2.1 dX7_ageBy_34 (by decide) ?_
          refine lv_iadd S.1 S.2.1 dX7_ageBy_35 ?_
          refine lv_istore_n (lv' := [(2, .int (x2 + (0 : Int32))), (0, .ref (ad 0)), (1, .int p1), (3, .int x3)]) S.1 S.2.1 dX7_ageBy_36 rfl hl (by decide) rfl (fun ls hl => ?_)
          refine lv_iinc (v := x3 + (1 : Int32)) (lv' := [(3, .int (x3 + (1 : Int32))), (2, .int (x2 + (0 : Int32))), (0, .ref (ad 0)), (1, .int p1)]) S.1 S.2.1 dX7_ageBy_37 hl (k := 3) rfl rfl (by decide) rfl (fun ls hl => ?_)
          refine lv_goto (tgt := 4) S.1 S.2.1 dX7_ageBy_40 (by decide) ?_
          exact ih _ _ _ _ h _ _ _ (lv_sub hl [2, 3, 1, 0] rfl) hW K
        · replace h := (if_neg c6).symm.trans h
          refine lv_aload_n S.1 S.2.1 dX7_ageBy_23 rfl (lv_at hl 0 rfl) ?_
          refine fl_get S hK iX7 rfl lM_0 sM_0 14 (by decide) (hq _ q_327) (fun _ h9 => h9) (fvs_R rfl rfl) hW dX7_ageBy_24 ?_
          refine lv_iconst (v := (1 : Int32)) S.1 S.2.1 dX7_ageBy_27 (by decide) ?_
          refine lv_iload_n S.1 S.2.1 dX7_ageBy_28 rfl (lv_at hl 3 rfl) ?_
          refine lv_iadd S.1 S.2.1 dX7_ageBy_29 ?_
          obtain ⟨g7, h⟩ := ix_some h
          refine fl_iald S hK lM_6 sM_6 g7 hW dX7_ageBy_30 ?_
          refine lv_goto (tgt := 35) S.1 S.2.1 dX7_ageBy_31 (by decide) ?_
          refine lv_iadd S.1 S.2.1 dX7_ageBy_35 ?_
          refine lv_istore_n (lv' := [(2, .int (x2 + (M.1 6 ((1 : Int32) + x3).toNatClampNeg))), (0, .ref (ad 0)), (1, .int p1), (3, .int x3)]) S.1 S.2.1 dX7_ageBy_36 rfl hl (by decide) rfl (fun ls hl => ?_)
          refine lv_iinc (v := x3 + (1 : Int32)) (lv' := [(3, .int (x3 + (1 : Int32))), (2, .int (x2 + (M.1 6 ((1 : Int32) + x3).toNatClampNeg))), (0, .ref (ad 0)), (1, .int p1)]) S.1 S.2.1 dX7_ageBy_37 hl (k := 3) rfl rfl (by decide) rfl (fun ls hl => ?_)
          refine lv_goto (tgt := 4) S.1 S.2.1 dX7_ageBy_40 (by decide) ?_
          exact ih _ _ _ _ h _ _ _ (lv_sub hl [2, 3, 1, 0] rfl) hW K
  obtain ⟨w1, w2, u11, h⟩ := b2_some h
  refine L4 50000 _ _ _ _ u11 _ _ _ (lv_sub hl [2, 3, 1, 0] rfl) hW (fun H locs ls hl hW => ?_)
  clear L4
  refine lv_iload_n S.1 S.2.1 dX7_ageBy_43 rfl (lv_at hl 2 rfl) ?_
  refine lv_iload_n S.1 S.2.1 dX7_ageBy_44 rfl (lv_at hl 1 rfl) ?_
  obtain ⟨v9, u8, h⟩ := bP_some h
  refine fl_doneP (fl_runS S (kX7_ones l p1 v9 u8) (va_cwS 1 S.2.2.2.2 (gS q_351 q_352 q_291 q_350) rfl rfl rfl (by decide +kernel) ⟨Nat.le_of_ble_eq_true rfl, Nat.le_of_ble_eq_true rfl⟩) rfl hl.1 rfl (Nat.le_of_ble_eq_true rfl) dX7_ageBy_45 ⟨Nat.zero_le _, Nat.zero_le _⟩) hW (fun H locs hW => ?_)
  obtain ⟨g10, h⟩ := nz_some h
  refine lv_idiv S.1 S.2.1 dX7_ageBy_48 g10 ?_
  obtain rfl := s1 h
  exact fl_iret S.1 S.2.1 hr hlocks hW dX7_ageBy_49
def fX7_ageOf (p1 : Int32) (M : Mm) : Option (Int32) :=
  bP (fX7_joinedWith p1 M) (fun (v2 : Int32) => bP (fX7_ageBy v2 M) (fun (v4 : Int32) => some v4))
set_option maxHeartbeats 4000000 in
set_option maxRecDepth 100000 in
theorem kX7_ageOf (l : Launch) {D : va_G} {cy : Nat → ClassId} {ad : Nat → Nat} (hJ : Inj ad 15)  (p1 : Int32) (M : Mm) (r : Int32) (h : fX7_ageOf p1 M = some r) : Met l yX7_ageOf vX7_ageOf ({ frames := 2, cells := 0, slots := 0, locals := 45 } : Room) (PcF [.ref (ad 0), .int p1] D cy ad kdV shM rfM 15 M) (QcI r D cy ad kdV shM rfM 15 M) 0 0 (AV ad 15) := by
  refine Met.ofW (cc := cX7_ageOf) (maxL := 2) (ret := (some .int)) (by decide) rfl ?_
  intro p e s m args below meth c s₁ B hml hv
  obtain ⟨rfl, hP, hK, hN⟩ := hv
  have hr := B.returns
  have hlocks := B.notSynchronized
  have S : CallFix p m c cX7_ageOf 2 s ([.ref (ad 0), .int p1] : List Value).toArray vX7_ageOf RX7 := ⟨B.exec, B.bytes, hml, findClass_of_methodNamed B.named, atoms_spec (ws := vX7_ageOf) B.pre⟩
  have hq : ∀ w ∈ GW, w.before ([.ref (ad 0), .int p1] : List Value).toArray s = true := fun w h => S.2.2.2.2 w (List.mem_cons_of_mem _ h)
  have hA : ∀ k, k < 15 → AV ad 15 (ad k) := fun k hk => ⟨k, hk, rfl⟩
  have hW : WSt D cy ad kdV shM rfM 15 (AV ad 15) M s.heap s.heap [] := ⟨hP, va_S.rf⟩
  clear hP
  have hl := lv_entry ([.ref (ad 0), .int p1]) (n := 2) (Nat.le_of_ble_eq_true rfl)
  rw [lg_entry_eq]
  generalize (lg_sl ([.ref (ad 0), .int p1]) ++ List.replicate (2 - (lg_sl ([.ref (ad 0), .int p1])).length) Slot.unset).toArray = ls at hl ⊢
  have hl : lv_has ls 2 [(0, .ref (ad 0)), (1, .int p1)] := hl
  rw [fX7_ageOf] at h
  refine lv_aload_n S.1 S.2.1 dX7_ageOf_0 rfl (lv_at hl 0 rfl) ?_
  refine lv_aload_n S.1 S.2.1 dX7_ageOf_1 rfl (lv_at hl 0 rfl) ?_
  refine lv_iload_n S.1 S.2.1 dX7_ageOf_2 rfl (lv_at hl 1 rfl) ?_
  obtain ⟨v2, u1, h⟩ := bP_some h
  refine fl_doneI (fl_runV S hK hN (kX7_joinedWith l hJ p1 M v2 u1) (cwV 1 S.2.2.2.2 (gV q_354 q_355 q_356 q_291 q_353) rfl rfl rfl (by decide +kernel) ⟨Nat.le_of_ble_eq_true rfl, Nat.le_of_ble_eq_true rfl⟩) (ci := 7) rfl lM_0 sM_0 rfl hl.1 rfl (Nat.le_of_ble_eq_true rfl) dX7_ageOf_3 ⟨Nat.zero_le _, Nat.zero_le _⟩ hW) hA hW.2 (fun H locs hW => ?_)
  obtain ⟨v4, u3, h⟩ := bP_some h
  refine fl_doneI (fl_runV S hK hN (kX7_ageBy l hJ v2 M v4 u3) (cwV 1 S.2.2.2.2 (gV q_358 q_359 q_360 q_291 q_357) rfl rfl rfl (by decide +kernel) ⟨Nat.le_of_ble_eq_true rfl, Nat.le_of_ble_eq_true rfl⟩) (ci := 7) rfl lM_0 sM_0 rfl hl.1 rfl (Nat.le_of_ble_eq_true rfl) dX7_ageOf_6 ⟨Nat.zero_le _, Nat.zero_le _⟩ hW) hA hW.2 (fun H locs hW => ?_)
  obtain rfl := s1 h
  exact fl_iret S.1 S.2.1 hr hlocks hW dX7_ageOf_9
def fX7_worksAt_L4 (p1 : Int32) (M : Mm) : Nat → Int32 → Int32 → Option (Int32 × Int32)
  | 0, _, _ => none
  | n + 1, x2, x3 => if (M.1 2 ((2 : Int32)).toNatClampNeg) ≤ x3 then (some (x2, x3)) else (ix x3 10 (ix x3 10 (bP (fX7_in p1 (M.1 4 (x3).toNatClampNeg) (M.1 5 (x3).toNatClampNeg)) (fun (v7 : Int32) => if v7 = 0 then (fX7_worksAt_L4 p1 M n (x2 ||| (0 : Int32)) (x3 + (1 : Int32))) else (fX7_worksAt_L4 p1 M n (x2 ||| ((1 : Int32) <<< (x3 &&& 31))) (x3 + (1 : Int32)))))))
def fX7_worksAt (p1 : Int32) (M : Mm) : Option (Int32) :=
  b2 (fX7_worksAt_L4 p1 M 50000 (0 : Int32) (0 : Int32)) (fun (w1 : Int32) (w2 : Int32) => some w1)
set_option maxHeartbeats 4000000 in
set_option maxRecDepth 100000 in
theorem kX7_worksAt (l : Launch) {D : va_G} {cy : Nat → ClassId} {ad : Nat → Nat} (hJ : Inj ad 15)  (p1 : Int32) (M : Mm) (r : Int32) (h : fX7_worksAt p1 M = some r) : Met l yX7_worksAt vX7_worksAt ({ frames := 1, cells := 0, slots := 0, locals := 22 } : Room) (PcF [.ref (ad 0), .int p1] D cy ad kdV shM rfM 15 M) (QcI r D cy ad kdV shM rfM 15 M) 0 0 (AV ad 15) := by
  refine Met.ofW (cc := cX7_worksAt) (maxL := 4) (ret := (some .int)) (by decide) rfl ?_
  intro p e s m args below meth c s₁ B hml hv
  obtain ⟨rfl, hP, hK, hN⟩ := hv
  have hr := B.returns
  have hlocks := B.notSynchronized
  have S : CallFix p m c cX7_worksAt 4 s ([.ref (ad 0), .int p1] : List Value).toArray vX7_worksAt RX7 := ⟨B.exec, B.bytes, hml, findClass_of_methodNamed B.named, atoms_spec (ws := vX7_worksAt) B.pre⟩
  have hq : ∀ w ∈ GW, w.before ([.ref (ad 0), .int p1] : List Value).toArray s = true := fun w h => S.2.2.2.2 w (List.mem_cons_of_mem _ h)
  have hA : ∀ k, k < 15 → AV ad 15 (ad k) := fun k hk => ⟨k, hk, rfl⟩
  have hW : WSt D cy ad kdV shM rfM 15 (AV ad 15) M s.heap s.heap [] := ⟨hP, va_S.rf⟩
  clear hP
  have iX7 : ∀ w ∈ wsX70, w ∈ vX7_worksAt := fun w h => List.mem_cons_of_mem _ (inX7 w h)
  have hl := lv_entry ([.ref (ad 0), .int p1]) (n := 4) (Nat.le_of_ble_eq_true rfl)
  rw [lg_entry_eq]
  generalize (lg_sl ([.ref (ad 0), .int p1]) ++ List.replicate (4 - (lg_sl ([.ref (ad 0), .int p1])).length) Slot.unset).toArray = ls at hl ⊢
  have hl : lv_has ls 4 [(0, .ref (ad 0)), (1, .int p1)] := hl
  rw [fX7_worksAt] at h
  refine lv_iconst (v := (0 : Int32)) S.1 S.2.1 dX7_worksAt_0 (by decide) ?_
  refine lv_istore_n (lv' := [(2, .int (0 : Int32)), (0, .ref (ad 0)), (1, .int p1)]) S.1 S.2.1 dX7_worksAt_1 rfl hl (by decide) rfl (fun ls hl => ?_)
  refine lv_iconst (v := (0 : Int32)) S.1 S.2.1 dX7_worksAt_2 (by decide) ?_
  refine lv_istore_n (lv' := [(3, .int (0 : Int32)), (2, .int (0 : Int32)), (0, .ref (ad 0)), (1, .int p1)]) S.1 S.2.1 dX7_worksAt_3 rfl hl (by decide) rfl (fun ls hl => ?_)
  have L4 : ∀ (n : Nat) (x2 : Int32) (x3 : Int32) (w1 : Int32) (w2 : Int32), fX7_worksAt_L4 p1 M n x2 x3 = some (w1, w2) → ∀ (H : Heap) (locs : List Loc) (ls : Array Slot), lv_has ls 4 [(0, .ref (ad 0)), (1, .int p1), (2, .int x2), (3, .int x3)] → WSt D cy ad kdV shM rfM 15 (AV ad 15) M s.heap H locs → (∀ (H : Heap) (locs : List Loc) (ls : Array Slot), lv_has ls 4 [(0, .ref (ad 0)), (1, .int p1), (2, .int w1), (3, .int w2)] → WSt D cy ad kdV shM rfM 15 (AV ad 15) M s.heap H locs → W p l e (headSpec vX7_worksAt ({ frames := 1, cells := 0, slots := 0, locals := 22 } : Room)).room s m ([.ref (ad 0), .int p1] : List Value).toArray below meth c H locs 0 0 (MQ below (QcI r D cy ad kdV shM rfM 15 M) ([.ref (ad 0), .int p1] : List Value).toArray s 0 0 (AV ad 15)) (F0 m 49 ls [])) → W p l e (headSpec vX7_worksAt ({ frames := 1, cells := 0, slots := 0, locals := 22 } : Room)).room s m ([.ref (ad 0), .int p1] : List Value).toArray below meth c H locs 0 0 (MQ below (QcI r D cy ad kdV shM rfM 15 M) ([.ref (ad 0), .int p1] : List Value).toArray s 0 0 (AV ad 15)) (F0 m 4 ls []) := by
    intro n
    induction n with
    | zero => intro x2 x3 w1 w2 h; cases h
    | succ n ih =>
      intro x2 x3 w1 w2 h H locs ls hl hW K
      rw [fX7_worksAt_L4] at h
      refine lv_iload_n S.1 S.2.1 dX7_worksAt_4 rfl (lv_at hl 3 rfl) ?_
      refine lv_aload_n S.1 S.2.1 dX7_worksAt_5 rfl (lv_at hl 0 rfl) ?_
      refine fl_get S hK iX7 rfl lM_0 sM_0 10 (by decide) (hq _ q_319) (fun _ h9 => h9) (fvs_R rfl rfl) hW dX7_worksAt_6 ?_
      refine lv_iconst (v := (2 : Int32)) S.1 S.2.1 dX7_worksAt_9 (by decide) ?_
      refine fl_iald S hK lM_2 sM_2 (vp_dec (i := (2 : Int32)) (n := 8) (by decide)) hW dX7_worksAt_10 ?_
      refine lv_icmp_ge (tgt := 49) S.1 S.2.1 dX7_worksAt_11 (by decide) (fun c3 => ?_) (fun c3 => ?_)
      · replace h := (if_pos c3).symm.trans h
        obtain ⟨rfl, rfl⟩ := s2 h
        exact K _ _ _ hl hW
      · replace h := (if_neg c3).symm.trans h
        refine lv_iload_n S.1 S.2.1 dX7_worksAt_14 rfl (lv_at hl 2 rfl) ?_
        refine lv_iload_n S.1 S.2.1 dX7_worksAt_15 rfl (lv_at hl 1 rfl) ?_
        refine lv_aload_n S.1 S.2.1 dX7_worksAt_16 rfl (lv_at hl 0 rfl) ?_
        refine fl_get S hK iX7 rfl lM_0 sM_0 12 (by decide) (hq _ q_325) (fun _ h9 => h9) (fvs_R rfl rfl) hW dX7_worksAt_17 ?_
        refine lv_iload_n S.1 S.2.1 dX7_worksAt_20 rfl (lv_at hl 3 rfl) ?_
        obtain ⟨g4, h⟩ := ix_some h
        refine fl_iald S hK lM_4 sM_4 g4 hW dX7_worksAt_21 ?_
        refine lv_aload_n S.1 S.2.1 dX7_worksAt_22 rfl (lv_at hl 0 rfl) ?_
        refine fl_get S hK iX7 rfl lM_0 sM_0 13 (by decide) (hq _ q_326) (fun _ h9 => h9) (fvs_R rfl rfl) hW dX7_worksAt_23 ?_
        refine lv_iload_n S.1 S.2.1 dX7_worksAt_26 rfl (lv_at hl 3 rfl) ?_
        obtain ⟨g5, h⟩ := ix_some h
        refine fl_iald S hK lM_5 sM_5 g5 hW dX7_worksAt_27 ?_
        obtain ⟨v7, u6, h⟩ := bP_some h
        refine fl_doneP (fl_runS S (kX7_in l p1 (M.1 4 (x3).toNatClampNeg) (M.1 5 (x3).toNatClampNeg) v7 u6) (va_cwS 3 S.2.2.2.2 (gS q_289 q_290 q_291 q_288) rfl rfl rfl (by decide +kernel) ⟨Nat.le_of_ble_eq_true rfl, Nat.le_of_ble_eq_true rfl⟩) rfl hl.1 rfl (Nat.le_of_ble_eq_true rfl) dX7_worksAt_28 ⟨Nat.zero_le _, Nat.zero_le _⟩) hW (fun H locs hW => ?_)
        refine lv_if_eq (tgt := 40) S.1 S.2.1 dX7_worksAt_31 (by decide) (fun c8 => ?_) (fun c8 => ?_)
        · replace h := (if_pos c8).symm.trans h
          refine lv_iconst (v := (0 : Int32)) S.1 S.2.1 dX7_worksAt_40 (by decide) ?_
          refine lv_ior S.1 S.2.1 dX7_worksAt_41 ?_
          refine lv_istore_n (lv' := [(2, .int (x2 ||| (0 : Int32))), (0, .ref (ad 0)), (1, .int p1), (3, .int x3)]) S.1 S.2.1 dX7_worksAt_42 rfl hl (by decide) rfl (fun ls hl => ?_)
          refine lv_iinc (v := x3 + (1 : Int32)) (lv' := [(3, .int (x3 + (1 : Int32))), (2, .int (x2 ||| (0 : Int32))), (0, .ref (ad 0)), (1, .int p1)]) S.1 S.2.1 dX7_worksAt_43 hl (k := 3) rfl rfl (by decide) rfl (fun ls hl => ?_)
          refine lv_goto (tgt := 4) S.1 S.2.1 dX7_worksAt_46 (by decide) ?_
          exact ih _ _ _ _ h _ _ _ (lv_sub hl [2, 3, 1, 0] rfl) hW K
        · replace h := (if_neg c8).symm.trans h
          refine lv_iconst (v := (1 : Int32)) S.1 S.2.1 dX7_worksAt_34 (by decide) ?_
          refine lv_iload_n S.1 S.2.1 dX7_worksAt_35 rfl (lv_at hl 3 rfl) ?_
          refine lv_ishl S.1 S.2.1 dX7_worksAt_36 ?_
          refine lv_goto (tgt := 41) S.1 S.2.1 dX7_worksAt_37 (by decide) ?_
          refine lv_ior S.1 S.2.1 dX7_worksAt_41 ?_
          refine lv_istore_n (lv' := [(2, .int (x2 ||| ((1 : Int32) <<< (x3 &&& 31)))), (0, .ref (ad 0)), (1, .int p1), (3, .int x3)]) S.1 S.2.1 dX7_worksAt_42 rfl hl (by decide) rfl (fun ls hl => ?_)
          refine lv_iinc (v := x3 + (1 : Int32)) (lv' := [(3, .int (x3 + (1 : Int32))), (2, .int (x2 ||| ((1 : Int32) <<< (x3 &&& 31)))), (0, .ref (ad 0)), (1, .int p1)]) S.1 S.2.1 dX7_worksAt_43 hl (k := 3) rfl rfl (by decide) rfl (fun ls hl => ?_)
          refine lv_goto (tgt := 4) S.1 S.2.1 dX7_worksAt_46 (by decide) ?_
          exact ih _ _ _ _ h _ _ _ (lv_sub hl [2, 3, 1, 0] rfl) hW K
  obtain ⟨w1, w2, u9, h⟩ := b2_some h
  refine L4 50000 _ _ _ _ u9 _ _ _ (lv_sub hl [2, 3, 1, 0] rfl) hW (fun H locs ls hl hW => ?_)
  clear L4
  refine lv_iload_n S.1 S.2.1 dX7_worksAt_49 rfl (lv_at hl 2 rfl) ?_
  obtain rfl := s1 h
  exact fl_iret S.1 S.2.1 hr hlocks hW dX7_worksAt_50
def fX7_worksOf (p1 : Int32) (M : Mm) : Option (Int32) :=
  bP (fX7_has (M.1 6 ((14 : Int32)).toNatClampNeg) p1) (fun (v2 : Int32) => if v2 = 0 then (some (0 : Int32)) else (ix ((15 : Int32) + p1) 21 (bP (fX7_worksAt (M.1 6 ((15 : Int32) + p1).toNatClampNeg) M) (fun (v6 : Int32) => some v6))))
set_option maxHeartbeats 4000000 in
set_option maxRecDepth 100000 in
theorem kX7_worksOf (l : Launch) {D : va_G} {cy : Nat → ClassId} {ad : Nat → Nat} (hJ : Inj ad 15)  (p1 : Int32) (M : Mm) (r : Int32) (h : fX7_worksOf p1 M = some r) : Met l yX7_worksOf vX7_worksOf ({ frames := 2, cells := 0, slots := 0, locals := 45 } : Room) (PcF [.ref (ad 0), .int p1] D cy ad kdV shM rfM 15 M) (QcI r D cy ad kdV shM rfM 15 M) 0 0 (AV ad 15) := by
  refine Met.ofW (cc := cX7_worksOf) (maxL := 2) (ret := (some .int)) (by decide) rfl ?_
  intro p e s m args below meth c s₁ B hml hv
  obtain ⟨rfl, hP, hK, hN⟩ := hv
  have hr := B.returns
  have hlocks := B.notSynchronized
  have S : CallFix p m c cX7_worksOf 2 s ([.ref (ad 0), .int p1] : List Value).toArray vX7_worksOf RX7 := ⟨B.exec, B.bytes, hml, findClass_of_methodNamed B.named, atoms_spec (ws := vX7_worksOf) B.pre⟩
  have hq : ∀ w ∈ GW, w.before ([.ref (ad 0), .int p1] : List Value).toArray s = true := fun w h => S.2.2.2.2 w (List.mem_cons_of_mem _ h)
  have hA : ∀ k, k < 15 → AV ad 15 (ad k) := fun k hk => ⟨k, hk, rfl⟩
  have hW : WSt D cy ad kdV shM rfM 15 (AV ad 15) M s.heap s.heap [] := ⟨hP, va_S.rf⟩
  clear hP
  have iX7 : ∀ w ∈ wsX70, w ∈ vX7_worksOf := fun w h => List.mem_cons_of_mem _ (inX7 w h)
  have hl := lv_entry ([.ref (ad 0), .int p1]) (n := 2) (Nat.le_of_ble_eq_true rfl)
  rw [lg_entry_eq]
  generalize (lg_sl ([.ref (ad 0), .int p1]) ++ List.replicate (2 - (lg_sl ([.ref (ad 0), .int p1])).length) Slot.unset).toArray = ls at hl ⊢
  have hl : lv_has ls 2 [(0, .ref (ad 0)), (1, .int p1)] := hl
  rw [fX7_worksOf] at h
  refine lv_aload_n S.1 S.2.1 dX7_worksOf_0 rfl (lv_at hl 0 rfl) ?_
  refine fl_get S hK iX7 rfl lM_0 sM_0 14 (by decide) (hq _ q_327) (fun _ h9 => h9) (fvs_R rfl rfl) hW dX7_worksOf_1 ?_
  refine lv_bipush (v := (14 : Int32)) S.1 S.2.1 dX7_worksOf_4 (by decide) ?_
  refine fl_iald S hK lM_6 sM_6 (vp_dec (i := (14 : Int32)) (n := 21) (by decide)) hW dX7_worksOf_6 ?_
  refine lv_iload_n S.1 S.2.1 dX7_worksOf_7 rfl (lv_at hl 1 rfl) ?_
  obtain ⟨v2, u1, h⟩ := bP_some h
  refine fl_doneP (fl_runS S (kX7_has l (M.1 6 ((14 : Int32)).toNatClampNeg) p1 v2 u1) (va_cwS 2 S.2.2.2.2 (gS q_348 q_349 q_291 q_347) rfl rfl rfl (by decide +kernel) ⟨Nat.le_of_ble_eq_true rfl, Nat.le_of_ble_eq_true rfl⟩) rfl hl.1 rfl (Nat.le_of_ble_eq_true rfl) dX7_worksOf_8 ⟨Nat.zero_le _, Nat.zero_le _⟩) hW (fun H locs hW => ?_)
  refine lv_if_eq (tgt := 30) S.1 S.2.1 dX7_worksOf_11 (by decide) (fun c3 => ?_) (fun c3 => ?_)
  · replace h := (if_pos c3).symm.trans h
    refine lv_iconst (v := (0 : Int32)) S.1 S.2.1 dX7_worksOf_30 (by decide) ?_
    obtain rfl := s1 h
    exact fl_iret S.1 S.2.1 hr hlocks hW dX7_worksOf_31
  · replace h := (if_neg c3).symm.trans h
    refine lv_aload_n S.1 S.2.1 dX7_worksOf_14 rfl (lv_at hl 0 rfl) ?_
    refine lv_aload_n S.1 S.2.1 dX7_worksOf_15 rfl (lv_at hl 0 rfl) ?_
    refine fl_get S hK iX7 rfl lM_0 sM_0 14 (by decide) (hq _ q_327) (fun _ h9 => h9) (fvs_R rfl rfl) hW dX7_worksOf_16 ?_
    refine lv_bipush (v := (15 : Int32)) S.1 S.2.1 dX7_worksOf_19 (by decide) ?_
    refine lv_iload_n S.1 S.2.1 dX7_worksOf_21 rfl (lv_at hl 1 rfl) ?_
    refine lv_iadd S.1 S.2.1 dX7_worksOf_22 ?_
    obtain ⟨g4, h⟩ := ix_some h
    refine fl_iald S hK lM_6 sM_6 g4 hW dX7_worksOf_23 ?_
    obtain ⟨v6, u5, h⟩ := bP_some h
    refine fl_doneI (fl_runV S hK hN (kX7_worksAt l hJ (M.1 6 ((15 : Int32) + p1).toNatClampNeg) M v6 u5) (cwV 1 S.2.2.2.2 (gV q_362 q_363 q_364 q_291 q_361) rfl rfl rfl (by decide +kernel) ⟨Nat.le_of_ble_eq_true rfl, Nat.le_of_ble_eq_true rfl⟩) (ci := 7) rfl lM_0 sM_0 rfl hl.1 rfl (Nat.le_of_ble_eq_true rfl) dX7_worksOf_24 ⟨Nat.zero_le _, Nat.zero_le _⟩ hW) hA hW.2 (fun H locs hW => ?_)
    refine lv_goto (tgt := 31) S.1 S.2.1 dX7_worksOf_27 (by decide) ?_
    obtain rfl := s1 h
    exact fl_iret S.1 S.2.1 hr hlocks hW dX7_worksOf_31
def fX7_whoCan_L4 (p1 : Int32) (M : Mm) : Nat → Int32 → Int32 → Option (Int32 × Int32)
  | 0, _, _ => none
  | n + 1, x2, x3 => if (M.1 2 ((1 : Int32)).toNatClampNeg) ≤ x3 then (some (x2, x3)) else (bP (fX7_worksOf x3 M) (fun (v5 : Int32) => bP (fX7_has v5 p1) (fun (v7 : Int32) => if v7 = 0 then (fX7_whoCan_L4 p1 M n (x2 ||| (0 : Int32)) (x3 + (1 : Int32))) else (fX7_whoCan_L4 p1 M n (x2 ||| ((1 : Int32) <<< (x3 &&& 31))) (x3 + (1 : Int32))))))
def fX7_whoCan (p1 : Int32) (M : Mm) : Option (Int32) :=
  b2 (fX7_whoCan_L4 p1 M 50000 (0 : Int32) (0 : Int32)) (fun (w1 : Int32) (w2 : Int32) => some w1)
set_option maxHeartbeats 4000000 in
set_option maxRecDepth 100000 in
theorem kX7_whoCan (l : Launch) {D : va_G} {cy : Nat → ClassId} {ad : Nat → Nat} (hJ : Inj ad 15)  (p1 : Int32) (M : Mm) (r : Int32) (h : fX7_whoCan p1 M = some r) : Met l yX7_whoCan vX7_whoCan ({ frames := 3, cells := 0, slots := 0, locals := 66 } : Room) (PcF [.ref (ad 0), .int p1] D cy ad kdV shM rfM 15 M) (QcI r D cy ad kdV shM rfM 15 M) 0 0 (AV ad 15) := by
  refine Met.ofW (cc := cX7_whoCan) (maxL := 4) (ret := (some .int)) (by decide) rfl ?_
  intro p e s m args below meth c s₁ B hml hv
  obtain ⟨rfl, hP, hK, hN⟩ := hv
  have hr := B.returns
  have hlocks := B.notSynchronized
  have S : CallFix p m c cX7_whoCan 4 s ([.ref (ad 0), .int p1] : List Value).toArray vX7_whoCan RX7 := ⟨B.exec, B.bytes, hml, findClass_of_methodNamed B.named, atoms_spec (ws := vX7_whoCan) B.pre⟩
  have hq : ∀ w ∈ GW, w.before ([.ref (ad 0), .int p1] : List Value).toArray s = true := fun w h => S.2.2.2.2 w (List.mem_cons_of_mem _ h)
  have hA : ∀ k, k < 15 → AV ad 15 (ad k) := fun k hk => ⟨k, hk, rfl⟩
  have hW : WSt D cy ad kdV shM rfM 15 (AV ad 15) M s.heap s.heap [] := ⟨hP, va_S.rf⟩
  clear hP
  have iX7 : ∀ w ∈ wsX70, w ∈ vX7_whoCan := fun w h => List.mem_cons_of_mem _ (inX7 w h)
  have hl := lv_entry ([.ref (ad 0), .int p1]) (n := 4) (Nat.le_of_ble_eq_true rfl)
  rw [lg_entry_eq]
  generalize (lg_sl ([.ref (ad 0), .int p1]) ++ List.replicate (4 - (lg_sl ([.ref (ad 0), .int p1])).length) Slot.unset).toArray = ls at hl ⊢
  have hl : lv_has ls 4 [(0, .ref (ad 0)), (1, .int p1)] := hl
  rw [fX7_whoCan] at h
  refine lv_iconst (v := (0 : Int32)) S.1 S.2.1 dX7_whoCan_0 (by decide) ?_
  refine lv_istore_n (lv' := [(2, .int (0 : Int32)), (0, .ref (ad 0)), (1, .int p1)]) S.1 S.2.1 dX7_whoCan_1 rfl hl (by decide) rfl (fun ls hl => ?_)
  refine lv_iconst (v := (0 : Int32)) S.1 S.2.1 dX7_whoCan_2 (by decide) ?_
  refine lv_istore_n (lv' := [(3, .int (0 : Int32)), (2, .int (0 : Int32)), (0, .ref (ad 0)), (1, .int p1)]) S.1 S.2.1 dX7_whoCan_3 rfl hl (by decide) rfl (fun ls hl => ?_)
  have L4 : ∀ (n : Nat) (x2 : Int32) (x3 : Int32) (w1 : Int32) (w2 : Int32), fX7_whoCan_L4 p1 M n x2 x3 = some (w1, w2) → ∀ (H : Heap) (locs : List Loc) (ls : Array Slot), lv_has ls 4 [(0, .ref (ad 0)), (1, .int p1), (2, .int x2), (3, .int x3)] → WSt D cy ad kdV shM rfM 15 (AV ad 15) M s.heap H locs → (∀ (H : Heap) (locs : List Loc) (ls : Array Slot), lv_has ls 4 [(0, .ref (ad 0)), (1, .int p1), (2, .int w1), (3, .int w2)] → WSt D cy ad kdV shM rfM 15 (AV ad 15) M s.heap H locs → W p l e (headSpec vX7_whoCan ({ frames := 3, cells := 0, slots := 0, locals := 66 } : Room)).room s m ([.ref (ad 0), .int p1] : List Value).toArray below meth c H locs 0 0 (MQ below (QcI r D cy ad kdV shM rfM 15 M) ([.ref (ad 0), .int p1] : List Value).toArray s 0 0 (AV ad 15)) (F0 m 42 ls [])) → W p l e (headSpec vX7_whoCan ({ frames := 3, cells := 0, slots := 0, locals := 66 } : Room)).room s m ([.ref (ad 0), .int p1] : List Value).toArray below meth c H locs 0 0 (MQ below (QcI r D cy ad kdV shM rfM 15 M) ([.ref (ad 0), .int p1] : List Value).toArray s 0 0 (AV ad 15)) (F0 m 4 ls []) := by
    intro n
    induction n with
    | zero => intro x2 x3 w1 w2 h; cases h
    | succ n ih =>
      intro x2 x3 w1 w2 h H locs ls hl hW K
      rw [fX7_whoCan_L4] at h
      refine lv_iload_n S.1 S.2.1 dX7_whoCan_4 rfl (lv_at hl 3 rfl) ?_
      refine lv_aload_n S.1 S.2.1 dX7_whoCan_5 rfl (lv_at hl 0 rfl) ?_
      refine fl_get S hK iX7 rfl lM_0 sM_0 10 (by decide) (hq _ q_319) (fun _ h9 => h9) (fvs_R rfl rfl) hW dX7_whoCan_6 ?_
      refine lv_iconst (v := (1 : Int32)) S.1 S.2.1 dX7_whoCan_9 (by decide) ?_
      refine fl_iald S hK lM_2 sM_2 (vp_dec (i := (1 : Int32)) (n := 8) (by decide)) hW dX7_whoCan_10 ?_
      refine lv_icmp_ge (tgt := 42) S.1 S.2.1 dX7_whoCan_11 (by decide) (fun c3 => ?_) (fun c3 => ?_)
      · replace h := (if_pos c3).symm.trans h
        obtain ⟨rfl, rfl⟩ := s2 h
        exact K _ _ _ hl hW
      · replace h := (if_neg c3).symm.trans h
        refine lv_iload_n S.1 S.2.1 dX7_whoCan_14 rfl (lv_at hl 2 rfl) ?_
        refine lv_aload_n S.1 S.2.1 dX7_whoCan_15 rfl (lv_at hl 0 rfl) ?_
        refine lv_iload_n S.1 S.2.1 dX7_whoCan_16 rfl (lv_at hl 3 rfl) ?_
        obtain ⟨v5, u4, h⟩ := bP_some h
        refine fl_doneI (fl_runV S hK hN (kX7_worksOf l hJ x3 M v5 u4) (cwV 1 S.2.2.2.2 (gV q_366 q_367 q_368 q_291 q_365) rfl rfl rfl (by decide +kernel) ⟨Nat.le_of_ble_eq_true rfl, Nat.le_of_ble_eq_true rfl⟩) (ci := 7) rfl lM_0 sM_0 rfl hl.1 rfl (Nat.le_of_ble_eq_true rfl) dX7_whoCan_17 ⟨Nat.zero_le _, Nat.zero_le _⟩ hW) hA hW.2 (fun H locs hW => ?_)
        refine lv_iload_n S.1 S.2.1 dX7_whoCan_20 rfl (lv_at hl 1 rfl) ?_
        obtain ⟨v7, u6, h⟩ := bP_some h
        refine fl_doneP (fl_runS S (kX7_has l v5 p1 v7 u6) (va_cwS 2 S.2.2.2.2 (gS q_348 q_349 q_291 q_347) rfl rfl rfl (by decide +kernel) ⟨Nat.le_of_ble_eq_true rfl, Nat.le_of_ble_eq_true rfl⟩) rfl hl.1 rfl (Nat.le_of_ble_eq_true rfl) dX7_whoCan_21 ⟨Nat.zero_le _, Nat.zero_le _⟩) hW (fun H locs hW => ?_)
        refine lv_if_eq (tgt := 33) S.1 S.2.1 dX7_whoCan_24 (by decide) (fun c8 => ?_) (fun c8 => ?_)
        · replace h := (if_pos c8).symm.trans h
          refine lv_iconst (v := (0 : Int32)) S.1 S.2.1 dX7_whoCan_33 (by decide) ?_
          refine lv_ior S.1 S.2.1 dX7_whoCan_34 ?_
          refine lv_istore_n (lv' := [(2, .int (x2 ||| (0 : Int32))), (0, .ref (ad 0)), (1, .int p1), (3, .int x3)]) S.1 S.2.1 dX7_whoCan_35 rfl hl (by decide) rfl (fun ls hl => ?_)
          refine lv_iinc (v := x3 + (1 : Int32)) (lv' := [(3, .int (x3 + (1 : Int32))), (2, .int (x2 ||| (0 : Int32))), (0, .ref (ad 0)), (1, .int p1)]) S.1 S.2.1 dX7_whoCan_36 hl (k := 3) rfl rfl (by decide) rfl (fun ls hl => ?_)
          refine lv_goto (tgt := 4) S.1 S.2.1 dX7_whoCan_39 (by decide) ?_
          exact ih _ _ _ _ h _ _ _ (lv_sub hl [2, 3, 1, 0] rfl) hW K
        · replace h := (if_neg c8).symm.trans h
          refine lv_iconst (v := (1 : Int32)) S.1 S.2.1 dX7_whoCan_27 (by decide) ?_
          refine lv_iload_n S.1 S.2.1 dX7_whoCan_28 rfl (lv_at hl 3 rfl) ?_
          refine lv_ishl S.1 S.2.1 dX7_whoCan_29 ?_
          refine lv_goto (tgt := 34) S.1 S.2.1 dX7_whoCan_30 (by decide) ?_
          refine lv_ior S.1 S.2.1 dX7_whoCan_34 ?_
          refine lv_istore_n (lv' := [(2, .int (x2 ||| ((1 : Int32) <<< (x3 &&& 31)))), (0, .ref (ad 0)), (1, .int p1), (3, .int x3)]) S.1 S.2.1 dX7_whoCan_35 rfl hl (by decide) rfl (fun ls hl => ?_)
          refine lv_iinc (v := x3 + (1 : Int32)) (lv' := [(3, .int (x3 + (1 : Int32))), (2, .int (x2 ||| ((1 : Int32) <<< (x3 &&& 31)))), (0, .ref (ad 0)), (1, .int p1)]) S.1 S.2.1 dX7_whoCan_36 hl (k := 3) rfl rfl (by decide) rfl (fun ls hl => ?_)
          refine lv_goto (tgt := 4) S.1 S.2.1 dX7_whoCan_39 (by decide) ?_
          exact ih _ _ _ _ h _ _ _ (lv_sub hl [2, 3, 1, 0] rfl) hW K
  obtain ⟨w1, w2, u9, h⟩ := b2_some h
  refine L4 50000 _ _ _ _ u9 _ _ _ (lv_sub hl [2, 3, 1, 0] rfl) hW (fun H locs ls hl hW => ?_)
  clear L4
  refine lv_iload_n S.1 S.2.1 dX7_whoCan_42 rfl (lv_at hl 2 rfl) ?_
  obtain rfl := s1 h
  exact fl_iret S.1 S.2.1 hr hlocks hW dX7_whoCan_43
def fX7_isDoneIn_L5 (p1 : Int32) (p2 : Int32) (M : Mm) : Nat → Int32 → Int32 → Option (Int32 × Int32)
  | 0, _, _ => none
  | n + 1, x3, x4 => if (M.1 2 ((1 : Int32)).toNatClampNeg) ≤ x4 then (some (x3, x4)) else (ix ((15 : Int32) + x4) 21 (if x3 = 0 then (bP (fX7_has (M.1 6 ((14 : Int32)).toNatClampNeg) x4) (fun (v7 : Int32) => if v7 = 0 then (fX7_isDoneIn_L5 p1 p2 M n (0 : Int32) (x4 + (1 : Int32))) else (if (M.1 2 ((3 : Int32)).toNatClampNeg) ≤ ((M.1 6 ((15 : Int32) + x4).toNatClampNeg) + p2) then (fX7_isDoneIn_L5 p1 p2 M n (0 : Int32) (x4 + (1 : Int32))) else (ix p1 10 (ix p1 10 (bP (fX7_in ((M.1 6 ((15 : Int32) + x4).toNatClampNeg) + p2) (M.1 4 (p1).toNatClampNeg) (M.1 5 (p1).toNatClampNeg)) (fun (v13 : Int32) => if v13 = 0 then (fX7_isDoneIn_L5 p1 p2 M n (0 : Int32) (x4 + (1 : Int32))) else (fX7_isDoneIn_L5 p1 p2 M n (1 : Int32) (x4 + (1 : Int32)))))))))) else (fX7_isDoneIn_L5 p1 p2 M n (1 : Int32) (x4 + (1 : Int32)))))
def fX7_isDoneIn (p1 : Int32) (p2 : Int32) (M : Mm) : Option (Int32) :=
  b2 (fX7_isDoneIn_L5 p1 p2 M 50000 (0 : Int32) (0 : Int32)) (fun (w1 : Int32) (w2 : Int32) => zb w1 (some w1))
set_option maxHeartbeats 4000000 in
set_option maxRecDepth 100000 in
theorem kX7_isDoneIn (l : Launch) {D : va_G} {cy : Nat → ClassId} {ad : Nat → Nat} (hJ : Inj ad 15)  (p1 : Int32) (p2 : Int32) (M : Mm) (r : Int32) (h : fX7_isDoneIn p1 p2 M = some r) : Met l yX7_isDoneIn vX7_isDoneIn ({ frames := 1, cells := 0, slots := 0, locals := 22 } : Room) (PcF [.ref (ad 0), .int p1, .int p2] D cy ad kdV shM rfM 15 M) (QcI r D cy ad kdV shM rfM 15 M) 0 0 (AV ad 15) := by
  refine Met.ofW (cc := cX7_isDoneIn) (maxL := 6) (ret := (some .boolean)) (by decide) rfl ?_
  intro p e s m args below meth c s₁ B hml hv
  obtain ⟨rfl, hP, hK, hN⟩ := hv
  have hr := B.returns
  have hlocks := B.notSynchronized
  have S : CallFix p m c cX7_isDoneIn 6 s ([.ref (ad 0), .int p1, .int p2] : List Value).toArray vX7_isDoneIn RX7 := ⟨B.exec, B.bytes, hml, findClass_of_methodNamed B.named, atoms_spec (ws := vX7_isDoneIn) B.pre⟩
  have hq : ∀ w ∈ GW, w.before ([.ref (ad 0), .int p1, .int p2] : List Value).toArray s = true := fun w h => S.2.2.2.2 w (List.mem_cons_of_mem _ h)
  have hA : ∀ k, k < 15 → AV ad 15 (ad k) := fun k hk => ⟨k, hk, rfl⟩
  have hW : WSt D cy ad kdV shM rfM 15 (AV ad 15) M s.heap s.heap [] := ⟨hP, va_S.rf⟩
  clear hP
  have iX7 : ∀ w ∈ wsX70, w ∈ vX7_isDoneIn := fun w h => List.mem_cons_of_mem _ (inX7 w h)
  have hl := lv_entry ([.ref (ad 0), .int p1, .int p2]) (n := 6) (Nat.le_of_ble_eq_true rfl)
  rw [lg_entry_eq]
  generalize (lg_sl ([.ref (ad 0), .int p1, .int p2]) ++ List.replicate (6 - (lg_sl ([.ref (ad 0), .int p1, .int p2])).length) Slot.unset).toArray = ls at hl ⊢
  have hl : lv_has ls 6 [(0, .ref (ad 0)), (1, .int p1), (2, .int p2)] := hl
  rw [fX7_isDoneIn] at h
  refine lv_iconst (v := (0 : Int32)) S.1 S.2.1 dX7_isDoneIn_0 (by decide) ?_
  refine lv_istore_n (lv' := [(3, .int (0 : Int32)), (0, .ref (ad 0)), (1, .int p1), (2, .int p2)]) S.1 S.2.1 dX7_isDoneIn_1 rfl hl (by decide) rfl (fun ls hl => ?_)
  refine lv_iconst (v := (0 : Int32)) S.1 S.2.1 dX7_isDoneIn_2 (by decide) ?_
  refine lv_istore (lv' := [(4, .int (0 : Int32)), (3, .int (0 : Int32)), (0, .ref (ad 0)), (1, .int p1), (2, .int p2)]) S.1 S.2.1 dX7_isDoneIn_3 hl (by decide) rfl (fun ls hl => ?_)
  have L5 : ∀ (n : Nat) (x3 : Int32) (x4 : Int32) (w1 : Int32) (w2 : Int32), fX7_isDoneIn_L5 p1 p2 M n x3 x4 = some (w1, w2) → ∀ (H : Heap) (locs : List Loc) (ls : Array Slot), lv_has ls 6 [(0, .ref (ad 0)), (1, .int p1), (2, .int p2), (3, .int x3), (4, .int x4)] → WSt D cy ad kdV shM rfM 15 (AV ad 15) M s.heap H locs → (∀ (H : Heap) (locs : List Loc) (ls : Array Slot), lv_has ls 6 [(0, .ref (ad 0)), (1, .int p1), (2, .int p2), (3, .int w1), (4, .int w2)] → WSt D cy ad kdV shM rfM 15 (AV ad 15) M s.heap H locs → W p l e (headSpec vX7_isDoneIn ({ frames := 1, cells := 0, slots := 0, locals := 22 } : Room)).room s m ([.ref (ad 0), .int p1, .int p2] : List Value).toArray below meth c H locs 0 0 (MQ below (QcI r D cy ad kdV shM rfM 15 M) ([.ref (ad 0), .int p1, .int p2] : List Value).toArray s 0 0 (AV ad 15)) (F0 m 92 ls [])) → W p l e (headSpec vX7_isDoneIn ({ frames := 1, cells := 0, slots := 0, locals := 22 } : Room)).room s m ([.ref (ad 0), .int p1, .int p2] : List Value).toArray below meth c H locs 0 0 (MQ below (QcI r D cy ad kdV shM rfM 15 M) ([.ref (ad 0), .int p1, .int p2] : List Value).toArray s 0 0 (AV ad 15)) (F0 m 5 ls []) := by
    intro n
    induction n with
    | zero => intro x3 x4 w1 w2 h; cases h
    | succ n ih =>
      intro x3 x4 w1 w2 h H locs ls hl hW K
      rw [fX7_isDoneIn_L5] at h
      refine lv_iload S.1 S.2.1 dX7_isDoneIn_5 (lv_at hl 4 rfl) ?_
      refine lv_aload_n S.1 S.2.1 dX7_isDoneIn_7 rfl (lv_at hl 0 rfl) ?_
      refine fl_get S hK iX7 rfl lM_0 sM_0 10 (by decide) (hq _ q_319) (fun _ h9 => h9) (fvs_R rfl rfl) hW dX7_isDoneIn_8 ?_
      refine lv_iconst (v := (1 : Int32)) S.1 S.2.1 dX7_isDoneIn_11 (by decide) ?_
      refine fl_iald S hK lM_2 sM_2 (vp_dec (i := (1 : Int32)) (n := 8) (by decide)) hW dX7_isDoneIn_12 ?_
      refine lv_icmp_ge (tgt := 92) S.1 S.2.1 dX7_isDoneIn_13 (by decide) (fun c3 => ?_) (fun c3 => ?_)
      · replace h := (if_pos c3).symm.trans h
        obtain ⟨rfl, rfl⟩ := s2 h
        exact K _ _ _ hl hW
      · replace h := (if_neg c3).symm.trans h
        refine lv_aload_n S.1 S.2.1 dX7_isDoneIn_16 rfl (lv_at hl 0 rfl) ?_
        refine fl_get S hK iX7 rfl lM_0 sM_0 14 (by decide) (hq _ q_327) (fun _ h9 => h9) (fvs_R rfl rfl) hW dX7_isDoneIn_17 ?_
        refine lv_bipush (v := (15 : Int32)) S.1 S.2.1 dX7_isDoneIn_20 (by decide) ?_
        refine lv_iload S.1 S.2.1 dX7_isDoneIn_22 (lv_at hl 4 rfl) ?_
        refine lv_iadd S.1 S.2.1 dX7_isDoneIn_24 ?_
        obtain ⟨g4, h⟩ := ix_some h
        refine fl_iald S hK lM_6 sM_6 g4 hW dX7_isDoneIn_25 ?_
        refine lv_iload_n S.1 S.2.1 dX7_isDoneIn_26 rfl (lv_at hl 2 rfl) ?_
        refine lv_iadd S.1 S.2.1 dX7_isDoneIn_27 ?_
        refine lv_istore (lv' := [(5, .int ((M.1 6 ((15 : Int32) + x4).toNatClampNeg) + p2)), (0, .ref (ad 0)), (1, .int p1), (2, .int p2), (3, .int x3), (4, .int x4)]) S.1 S.2.1 dX7_isDoneIn_28 hl (by decide) rfl (fun ls hl => ?_)
        refine lv_iload_n S.1 S.2.1 dX7_isDoneIn_30 rfl (lv_at hl 4 rfl) ?_
        refine lv_if_ne (tgt := 80) S.1 S.2.1 dX7_isDoneIn_31 (by decide) (fun c5 => ?_) (fun c5 => ?_)
        · replace h := (if_neg c5).symm.trans h
          refine lv_iconst (v := (1 : Int32)) S.1 S.2.1 dX7_isDoneIn_80 (by decide) ?_
          refine lv_goto (tgt := 85) S.1 S.2.1 dX7_isDoneIn_81 (by decide) ?_
          refine lv_istore_n (lv' := [(3, .int (1 : Int32)), (5, .int ((M.1 6 ((15 : Int32) + x4).toNatClampNeg) + p2)), (0, .ref (ad 0)), (1, .int p1), (2, .int p2), (4, .int x4)]) S.1 S.2.1 dX7_isDoneIn_85 rfl hl (by decide) rfl (fun ls hl => ?_)
          refine lv_iinc (v := x4 + (1 : Int32)) (lv' := [(4, .int (x4 + (1 : Int32))), (3, .int (1 : Int32)), (5, .int ((M.1 6 ((15 : Int32) + x4).toNatClampNeg) + p2)), (0, .ref (ad 0)), (1, .int p1), (2, .int p2)]) S.1 S.2.1 dX7_isDoneIn_86 hl (k := 5) rfl rfl (by decide) rfl (fun ls hl => ?_)
          refine lv_goto (tgt := 5) S.1 S.2.1 dX7_isDoneIn_89 (by decide) ?_
          exact ih _ _ _ _ h _ _ _ (lv_sub hl [3, 4, 5, 1, 0] rfl) hW K
        · replace h := (if_pos c5).symm.trans h
          refine lv_aload_n S.1 S.2.1 dX7_isDoneIn_34 rfl (lv_at hl 1 rfl) ?_
          refine fl_get S hK iX7 rfl lM_0 sM_0 14 (by decide) (hq _ q_327) (fun _ h9 => h9) (fvs_R rfl rfl) hW dX7_isDoneIn_35 ?_
          refine lv_bipush (v := (14 : Int32)) S.1 S.2.1 dX7_isDoneIn_38 (by decide) ?_
          refine fl_iald S hK lM_6 sM_6 (vp_dec (i := (14 : Int32)) (n := 21) (by decide)) hW dX7_isDoneIn_40 ?_
          refine lv_iload S.1 S.2.1 dX7_isDoneIn_41 (lv_at hl 5 rfl) ?_
          obtain ⟨v7, u6, h⟩ := bP_some h
          refine fl_doneP (fl_runS S (kX7_has l (M.1 6 ((14 : Int32)).toNatClampNeg) x4 v7 u6) (va_cwS 2 S.2.2.2.2 (gS q_348 q_349 q_291 q_347) rfl rfl rfl (by decide +kernel) ⟨Nat.le_of_ble_eq_true rfl, Nat.le_of_ble_eq_true rfl⟩) rfl hl.1 rfl (Nat.le_of_ble_eq_true rfl) dX7_isDoneIn_43 ⟨Nat.zero_le _, Nat.zero_le _⟩) hW (fun H locs hW => ?_)
          refine lv_if_eq (tgt := 84) S.1 S.2.1 dX7_isDoneIn_46 (by decide) (fun c8 => ?_) (fun c8 => ?_)
          · replace h := (if_pos c8).symm.trans h
            refine lv_iconst (v := (0 : Int32)) S.1 S.2.1 dX7_isDoneIn_84 (by decide) ?_
            refine lv_istore_n (lv' := [(3, .int (0 : Int32)), (5, .int ((M.1 6 ((15 : Int32) + x4).toNatClampNeg) + p2)), (0, .ref (ad 0)), (1, .int p1), (2, .int p2), (4, .int x4)]) S.1 S.2.1 dX7_isDoneIn_85 rfl hl (by decide) rfl (fun ls hl => ?_)
            refine lv_iinc (v := x4 + (1 : Int32)) (lv' := [(4, .int (x4 + (1 : Int32))), (3, .int (0 : Int32)), (5, .int ((M.1 6 ((15 : Int32) + x4).toNatClampNeg) + p2)), (0, .ref (ad 0)), (1, .int p1), (2, .int p2)]) S.1 S.2.1 dX7_isDoneIn_86 hl (k := 5) rfl rfl (by decide) rfl (fun ls hl => ?_)
            refine lv_goto (tgt := 5) S.1 S.2.1 dX7_isDoneIn_89 (by decide) ?_
            exact ih _ _ _ _ h _ _ _ (lv_sub hl [3, 4, 5, 1, 0] rfl) hW K
          · replace h := (if_neg c8).symm.trans h
            refine lv_iload S.1 S.2.1 dX7_isDoneIn_49 (lv_at hl 0 rfl) ?_
            refine lv_aload_n S.1 S.2.1 dX7_isDoneIn_51 rfl (lv_at hl 1 rfl) ?_
            refine fl_get S hK iX7 rfl lM_0 sM_0 10 (by decide) (hq _ q_319) (fun _ h9 => h9) (fvs_R rfl rfl) hW dX7_isDoneIn_52 ?_
            refine lv_iconst (v := (3 : Int32)) S.1 S.2.1 dX7_isDoneIn_55 (by decide) ?_
            refine fl_iald S hK lM_2 sM_2 (vp_dec (i := (3 : Int32)) (n := 8) (by decide)) hW dX7_isDoneIn_56 ?_
            refine lv_icmp_ge (tgt := 84) S.1 S.2.1 dX7_isDoneIn_57 (by decide) (fun c9 => ?_) (fun c9 => ?_)
            · replace h := (if_pos c9).symm.trans h
              refine lv_iconst (v := (0 : Int32)) S.1 S.2.1 dX7_isDoneIn_84 (by decide) ?_
              refine lv_istore_n (lv' := [(3, .int (0 : Int32)), (5, .int ((M.1 6 ((15 : Int32) + x4).toNatClampNeg) + p2)), (0, .ref (ad 0)), (1, .int p1), (2, .int p2), (4, .int x4)]) S.1 S.2.1 dX7_isDoneIn_85 rfl hl (by decide) rfl (fun ls hl => ?_)
              refine lv_iinc (v := x4 + (1 : Int32)) (lv' := [(4, .int (x4 + (1 : Int32))), (3, .int (0 : Int32)), (5, .int ((M.1 6 ((15 : Int32) + x4).toNatClampNeg) + p2)), (0, .ref (ad 0)), (1, .int p1), (2, .int p2)]) S.1 S.2.1 dX7_isDoneIn_86 hl (k := 5) rfl rfl (by decide) rfl (fun ls hl => ?_)
              refine lv_goto (tgt := 5) S.1 S.2.1 dX7_isDoneIn_89 (by decide) ?_
              exact ih _ _ _ _ h _ _ _ (lv_sub hl [3, 4, 5, 1, 0] rfl) hW K
            · replace h := (if_neg c9).symm.trans h
              refine lv_iload S.1 S.2.1 dX7_isDoneIn_60 (lv_at hl 0 rfl) ?_
              refine lv_aload_n S.1 S.2.1 dX7_isDoneIn_62 rfl (lv_at hl 1 rfl) ?_
              refine fl_get S hK iX7 rfl lM_0 sM_0 12 (by decide) (hq _ q_325) (fun _ h9 => h9) (fvs_R rfl rfl) hW dX7_isDoneIn_63 ?_
              refine lv_iload_n S.1 S.2.1 dX7_isDoneIn_66 rfl (lv_at hl 2 rfl) ?_
              obtain ⟨g10, h⟩ := ix_some h
              refine fl_iald S hK lM_4 sM_4 g10 hW dX7_isDoneIn_67 ?_
              refine lv_aload_n S.1 S.2.1 dX7_isDoneIn_68 rfl (lv_at hl 1 rfl) ?_
              refine fl_get S hK iX7 rfl lM_0 sM_0 13 (by decide) (hq _ q_326) (fun _ h9 => h9) (fvs_R rfl rfl) hW dX7_isDoneIn_69 ?_
              refine lv_iload_n S.1 S.2.1 dX7_isDoneIn_72 rfl (lv_at hl 2 rfl) ?_
              obtain ⟨g11, h⟩ := ix_some h
              refine fl_iald S hK lM_5 sM_5 g11 hW dX7_isDoneIn_73 ?_
              obtain ⟨v13, u12, h⟩ := bP_some h
              refine fl_doneP (fl_runS S (kX7_in l ((M.1 6 ((15 : Int32) + x4).toNatClampNeg) + p2) (M.1 4 (p1).toNatClampNeg) (M.1 5 (p1).toNatClampNeg) v13 u12) (va_cwS 3 S.2.2.2.2 (gS q_289 q_290 q_291 q_288) rfl rfl rfl (by decide +kernel) ⟨Nat.le_of_ble_eq_true rfl, Nat.le_of_ble_eq_true rfl⟩) rfl hl.1 rfl (Nat.le_of_ble_eq_true rfl) dX7_isDoneIn_74 ⟨Nat.zero_le _, Nat.zero_le _⟩) hW (fun H locs hW => ?_)
              refine lv_if_eq (tgt := 84) S.1 S.2.1 dX7_isDoneIn_77 (by decide) (fun c14 => ?_) (fun c14 => ?_)
              · replace h := (if_pos c14).symm.trans h
                refine lv_iconst (v := (0 : Int32)) S.1 S.2.1 dX7_isDoneIn_84 (by decide) ?_
                refine lv_istore_n (lv' := [(3, .int (0 : Int32)), (5, .int ((M.1 6 ((15 : Int32) + x4).toNatClampNeg) + p2)), (0, .ref (ad 0)), (1, .int p1), (2, .int p2), (4, .int x4)]) S.1 S.2.1 dX7_isDoneIn_85 rfl hl (by decide) rfl (fun ls hl => ?_)
                refine lv_iinc (v := x4 + (1 : Int32)) (lv' := [(4, .int (x4 + (1 : Int32))), (3, .int (0 : Int32)), (5, .int ((M.1 6 ((15 : Int32) + x4).toNatClampNeg) + p2)), (0, .ref (ad 0)), (1, .int p1), (2, .int p2)]) S.1 S.2.1 dX7_isDoneIn_86 hl (k := 5) rfl rfl (by decide) rfl (fun ls hl => ?_)
                refine lv_goto (tgt := 5) S.1 S.2.1 dX7_isDoneIn_89 (by decide) ?_
                exact ih _ _ _ _ h _ _ _ (lv_sub hl [3, 4, 5, 1, 0] rfl) hW K
              · replace h := (if_neg c14).symm.trans h
                refine lv_iconst (v := (1 : Int32)) S.1 S.2.1 dX7_isDoneIn_80 (by decide) ?_
                refine lv_goto (tgt := 85) S.1 S.2.1 dX7_isDoneIn_81 (by decide) ?_
                refine lv_istore_n (lv' := [(3, .int (1 : Int32)), (5, .int ((M.1 6 ((15 : Int32) + x4).toNatClampNeg) + p2)), (0, .ref (ad 0)), (1, .int p1), (2, .int p2), (4, .int x4)]) S.1 S.2.1 dX7_isDoneIn_85 rfl hl (by decide) rfl (fun ls hl => ?_)
                refine lv_iinc (v := x4 + (1 : Int32)) (lv' := [(4, .int (x4 + (1 : Int32))), (3, .int (1 : Int32)), (5, .int ((M.1 6 ((15 : Int32) + x4).toNatClampNeg) + p2)), (0, .ref (ad 0)), (1, .int p1), (2, .int p2)]) S.1 S.2.1 dX7_isDoneIn_86 hl (k := 5) rfl rfl (by decide) rfl (fun ls hl => ?_)
                refine lv_goto (tgt := 5) S.1 S.2.1 dX7_isDoneIn_89 (by decide) ?_
                exact ih _ _ _ _ h _ _ _ (lv_sub hl [3, 4, 5, 1, 0] rfl) hW K
  obtain ⟨w1, w2, u16, h⟩ := b2_some h
  refine L5 50000 _ _ _ _ u16 _ _ _ (lv_sub hl [2, 3, 4, 1, 0] rfl) hW (fun H locs ls hl hW => ?_)
  clear L5
  refine lv_iload_n S.1 S.2.1 dX7_isDoneIn_92 rfl (lv_at hl 3 rfl) ?_
  obtain ⟨g15, h⟩ := zb_some h
  obtain rfl := s1 h
  exact fl_zret S.1 S.2.1 hr hlocks g15 hW dX7_isDoneIn_93
def fX7_lastsOf_L2 (p1 : Int32) (M : Mm) : Nat → Int32 → Option ((Int32) ⊕ (Int32))
  | 0, _ => none
  | n + 1, x2 => if (60 : Int32) < x2 then (some (.inl x2)) else (bP (fX7_isDoneIn p1 x2 M) (fun (v4 : Int32) => if v4 = 0 then (some (.inr x2)) else (fX7_lastsOf_L2 p1 M n (x2 + (1 : Int32)))))
def fX7_lastsOf (p1 : Int32) (M : Mm) : Option (Int32) :=
  bS (fX7_lastsOf_L2 p1 M 50000 (0 : Int32)) (fun o7 => (fun (w1 : Int32) => some (-9 : Int32)) o7) (fun o7 => some o7)
set_option maxHeartbeats 4000000 in
set_option maxRecDepth 100000 in
theorem kX7_lastsOf (l : Launch) {D : va_G} {cy : Nat → ClassId} {ad : Nat → Nat} (hJ : Inj ad 15)  (p1 : Int32) (M : Mm) (r : Int32) (h : fX7_lastsOf p1 M = some r) : Met l yX7_lastsOf vX7_lastsOf ({ frames := 2, cells := 0, slots := 0, locals := 47 } : Room) (PcF [.ref (ad 0), .int p1] D cy ad kdV shM rfM 15 M) (QcI r D cy ad kdV shM rfM 15 M) 0 0 (AV ad 15) := by
  refine Met.ofW (cc := cX7_lastsOf) (maxL := 3) (ret := (some .int)) (by decide) rfl ?_
  intro p e s m args below meth c s₁ B hml hv
  obtain ⟨rfl, hP, hK, hN⟩ := hv
  have hr := B.returns
  have hlocks := B.notSynchronized
  have S : CallFix p m c cX7_lastsOf 3 s ([.ref (ad 0), .int p1] : List Value).toArray vX7_lastsOf RX7 := ⟨B.exec, B.bytes, hml, findClass_of_methodNamed B.named, atoms_spec (ws := vX7_lastsOf) B.pre⟩
  have hq : ∀ w ∈ GW, w.before ([.ref (ad 0), .int p1] : List Value).toArray s = true := fun w h => S.2.2.2.2 w (List.mem_cons_of_mem _ h)
  have hA : ∀ k, k < 15 → AV ad 15 (ad k) := fun k hk => ⟨k, hk, rfl⟩
  have hW : WSt D cy ad kdV shM rfM 15 (AV ad 15) M s.heap s.heap [] := ⟨hP, va_S.rf⟩
  clear hP
  have hl := lv_entry ([.ref (ad 0), .int p1]) (n := 3) (Nat.le_of_ble_eq_true rfl)
  rw [lg_entry_eq]
  generalize (lg_sl ([.ref (ad 0), .int p1]) ++ List.replicate (3 - (lg_sl ([.ref (ad 0), .int p1])).length) Slot.unset).toArray = ls at hl ⊢
  have hl : lv_has ls 3 [(0, .ref (ad 0)), (1, .int p1)] := hl
  rw [fX7_lastsOf] at h
  refine lv_iconst (v := (0 : Int32)) S.1 S.2.1 dX7_lastsOf_0 (by decide) ?_
  refine lv_istore_n (lv' := [(2, .int (0 : Int32)), (0, .ref (ad 0)), (1, .int p1)]) S.1 S.2.1 dX7_lastsOf_1 rfl hl (by decide) rfl (fun ls hl => ?_)
  have L2 : ∀ (n : Nat) (x2 : Int32) (o : (Int32) ⊕ (Int32)), fX7_lastsOf_L2 p1 M n x2 = some o → ∀ (H : Heap) (locs : List Loc) (ls : Array Slot), lv_has ls 3 [(0, .ref (ad 0)), (1, .int p1), (2, .int x2)] → WSt D cy ad kdV shM rfM 15 (AV ad 15) M s.heap H locs → (∀ (w1 : Int32), o = .inl w1 → ∀ (H : Heap) (locs : List Loc) (ls : Array Slot), lv_has ls 3 [(0, .ref (ad 0)), (1, .int p1), (2, .int w1)] → WSt D cy ad kdV shM rfM 15 (AV ad 15) M s.heap H locs → W p l e (headSpec vX7_lastsOf ({ frames := 2, cells := 0, slots := 0, locals := 47 } : Room)).room s m ([.ref (ad 0), .int p1] : List Value).toArray below meth c H locs 0 0 (MQ below (QcI r D cy ad kdV shM rfM 15 M) ([.ref (ad 0), .int p1] : List Value).toArray s 0 0 (AV ad 15)) (F0 m 25 ls [])) → (∀ (rr : Int32), o = .inr rr → ∀ (H : Heap) (locs : List Loc) (ls : Array Slot) (pc : Nat), WSt D cy ad kdV shM rfM 15 (AV ad 15) M s.heap H locs → decode cX7_lastsOf pc = .ok (.ireturn, 1) → W p l e (headSpec vX7_lastsOf ({ frames := 2, cells := 0, slots := 0, locals := 47 } : Room)).room s m ([.ref (ad 0), .int p1] : List Value).toArray below meth c H locs 0 0 (MQ below (QcI r D cy ad kdV shM rfM 15 M) ([.ref (ad 0), .int p1] : List Value).toArray s 0 0 (AV ad 15)) (F0 m pc ls [.int rr])) → W p l e (headSpec vX7_lastsOf ({ frames := 2, cells := 0, slots := 0, locals := 47 } : Room)).room s m ([.ref (ad 0), .int p1] : List Value).toArray below meth c H locs 0 0 (MQ below (QcI r D cy ad kdV shM rfM 15 M) ([.ref (ad 0), .int p1] : List Value).toArray s 0 0 (AV ad 15)) (F0 m 2 ls []) := by
    intro n
    induction n with
    | zero => intro x2 o h; cases h
    | succ n ih =>
      intro x2 o h H locs ls hl hW K K2
      rw [fX7_lastsOf_L2] at h
      refine lv_iload_n S.1 S.2.1 dX7_lastsOf_2 rfl (lv_at hl 2 rfl) ?_
      refine lv_bipush (v := (60 : Int32)) S.1 S.2.1 dX7_lastsOf_3 (by decide) ?_
      refine lv_icmp_gt (tgt := 25) S.1 S.2.1 dX7_lastsOf_5 (by decide) (fun c2 => ?_) (fun c2 => ?_)
      · replace h := (if_pos c2).symm.trans h
        exact K _ (Option.some.inj h).symm _ _ _ hl hW
      · replace h := (if_neg c2).symm.trans h
        refine lv_aload_n S.1 S.2.1 dX7_lastsOf_8 rfl (lv_at hl 0 rfl) ?_
        refine lv_iload_n S.1 S.2.1 dX7_lastsOf_9 rfl (lv_at hl 1 rfl) ?_
        refine lv_iload_n S.1 S.2.1 dX7_lastsOf_10 rfl (lv_at hl 2 rfl) ?_
        obtain ⟨v4, u3, h⟩ := bP_some h
        refine fl_doneI (fl_runV S hK hN (kX7_isDoneIn l hJ p1 x2 M v4 u3) (cwV 2 S.2.2.2.2 (gV q_370 q_371 q_372 q_291 q_369) rfl rfl rfl (by decide +kernel) ⟨Nat.le_of_ble_eq_true rfl, Nat.le_of_ble_eq_true rfl⟩) (ci := 7) rfl lM_0 sM_0 rfl hl.1 rfl (Nat.le_of_ble_eq_true rfl) dX7_lastsOf_11 ⟨Nat.zero_le _, Nat.zero_le _⟩ hW) hA hW.2 (fun H locs hW => ?_)
        refine lv_if_ne (tgt := 19) S.1 S.2.1 dX7_lastsOf_14 (by decide) (fun c5 => ?_) (fun c5 => ?_)
        · replace h := (if_neg c5).symm.trans h
          refine lv_iinc (v := x2 + (1 : Int32)) (lv' := [(2, .int (x2 + (1 : Int32))), (0, .ref (ad 0)), (1, .int p1)]) S.1 S.2.1 dX7_lastsOf_19 hl (k := 2) rfl rfl (by decide) rfl (fun ls hl => ?_)
          refine lv_goto (tgt := 2) S.1 S.2.1 dX7_lastsOf_22 (by decide) ?_
          exact ih _ _ h _ _ _ (lv_sub hl [1, 2, 0] rfl) hW K K2
        · replace h := (if_pos c5).symm.trans h
          refine lv_iload_n S.1 S.2.1 dX7_lastsOf_17 rfl (lv_at hl 2 rfl) ?_
          exact K2 _ (Option.some.inj h).symm _ _ _ _ hW dX7_lastsOf_18
  rcases bS_some h with ⟨o7, u6, h⟩ | ⟨o7, u6, h⟩
  · obtain ⟨w1, rfl⟩ : ∃ z, z = o7 := ⟨_, rfl⟩
    refine L2 50000 _ _ u6 _ _ _ (lv_sub hl [1, 2, 0] rfl) hW (fun w1z e H locs ls hl hW => ?_) (fun rr e => by cases e)
    cases e
    refine lv_bipush (v := (-9 : Int32)) S.1 S.2.1 dX7_lastsOf_25 (by decide) ?_
    obtain rfl := s1 h
    exact fl_iret S.1 S.2.1 hr hlocks hW dX7_lastsOf_27
  · refine L2 50000 _ _ u6 _ _ _ (lv_sub hl [1, 2, 0] rfl) hW (fun _ e => by cases e) (fun rr e H locs ls pc hW hd => ?_)
    cases e
    obtain rfl := s1 h
    exact fl_iret S.1 S.2.1 hr hlocks hW hd
def fX7_room (p1 : Int32) (p2 : Int32) (M : Mm) : Option (Int32 × Mm) :=
  lt (wI M 0 0 (0 : Int32)) (fun (M1 : Mm) => bP (fX7_isRoom p1 M1) (fun (v4 : Int32) => if v4 = 0 then (some ((-1 : Int32), M1)) else (bP (fX7_in p2 (0 : Int32) (2 : Int32)) (fun (v7 : Int32) => if v7 = 0 then (some ((-1 : Int32), M1)) else (if p2 = 0 then (ix ((1 : Int32) + p1) 21 (some (M1.1 6 ((1 : Int32) + p1).toNatClampNeg, M1))) else (if p2 = (1 : Int32) then (bP (fX7_ageOf p1 M1) (fun (v13 : Int32) => some (v13, M1))) else (bP (fX7_joinedWith p1 M1) (fun (v15 : Int32) => some (v15, M1)))))))))
set_option maxHeartbeats 4000000 in
set_option maxRecDepth 100000 in
theorem kX7_room (l : Launch) {D : va_G} {cy : Nat → ClassId} {ad : Nat → Nat} (hJ : Inj ad 15)  (p1 : Int32) (p2 : Int32) (M : Mm) (r : Int32) (M' : Mm) (h : fX7_room p1 p2 M = some (r, M')) : Met l yX7_room vX7_room ({ frames := 3, cells := 0, slots := 0, locals := 66 } : Room) (PcF [.ref (ad 0), .int p1, .int p2] D cy ad kdV shM rfM 15 M) (QcI r D cy ad kdV shM rfM 15 M') 0 0 (AV ad 15) := by
  refine Met.ofW (cc := cX7_room) (maxL := 3) (ret := (some .int)) (by decide) rfl ?_
  intro p e s m args below meth c s₁ B hml hv
  obtain ⟨rfl, hP, hK, hN⟩ := hv
  have hr := B.returns
  have hlocks := B.notSynchronized
  have S : CallFix p m c cX7_room 3 s ([.ref (ad 0), .int p1, .int p2] : List Value).toArray vX7_room RX7 := ⟨B.exec, B.bytes, hml, findClass_of_methodNamed B.named, atoms_spec (ws := vX7_room) B.pre⟩
  have hq : ∀ w ∈ GW, w.before ([.ref (ad 0), .int p1, .int p2] : List Value).toArray s = true := fun w h => S.2.2.2.2 w (List.mem_cons_of_mem _ h)
  have hA : ∀ k, k < 15 → AV ad 15 (ad k) := fun k hk => ⟨k, hk, rfl⟩
  have hW : WSt D cy ad kdV shM rfM 15 (AV ad 15) M s.heap s.heap [] := ⟨hP, va_S.rf⟩
  clear hP
  have iX7 : ∀ w ∈ wsX70, w ∈ vX7_room := fun w h => List.mem_cons_of_mem _ (inX7 w h)
  have hl := lv_entry ([.ref (ad 0), .int p1, .int p2]) (n := 3) (Nat.le_of_ble_eq_true rfl)
  rw [lg_entry_eq]
  generalize (lg_sl ([.ref (ad 0), .int p1, .int p2]) ++ List.replicate (3 - (lg_sl ([.ref (ad 0), .int p1, .int p2])).length) Slot.unset).toArray = ls at hl ⊢
  have hl : lv_has ls 3 [(0, .ref (ad 0)), (1, .int p1), (2, .int p2)] := hl
  rw [fX7_room] at h
  refine lv_aload_n S.1 S.2.1 dX7_room_0 rfl (lv_at hl 0 rfl) ?_
  refine lv_iconst (v := (0 : Int32)) S.1 S.2.1 dX7_room_1 (by decide) ?_
  refine fl_put S hK hJ hA tyX7 tyX7_ok nmX7 iX7 rfl lM_0 sM_0 0 (by decide) (hq _ q_287) (fun _ h9 => h9) rfl (ty := .int) rfl rfl rfl (wI M 0 0 (0 : Int32)) (by decide) (fvs_setI _ _ _ _ _ _ _ rfl) (fun j _ hj => cof_wI_ne hj) hW dX7_room_2 (fun H locs hW => ?_)
  obtain ⟨M1, e2, h⟩ := lt_some h
  rw [e2] at hW
  clear e2
  refine lv_aload_n S.1 S.2.1 dX7_room_5 rfl (lv_at hl 0 rfl) ?_
  refine lv_iload_n S.1 S.2.1 dX7_room_6 rfl (lv_at hl 1 rfl) ?_
  obtain ⟨v4, u3, h⟩ := bP_some h
  refine fl_doneI (fl_runV S hK hN (kX7_isRoom l hJ p1 M1 v4 u3) (cwV 1 S.2.2.2.2 (gV q_374 q_375 q_376 q_291 q_373) rfl rfl rfl (by decide +kernel) ⟨Nat.le_of_ble_eq_true rfl, Nat.le_of_ble_eq_true rfl⟩) (ci := 7) rfl lM_0 sM_0 rfl hl.1 rfl (Nat.le_of_ble_eq_true rfl) dX7_room_7 ⟨Nat.zero_le _, Nat.zero_le _⟩ hW) hA hW.2 (fun H locs hW => ?_)
  refine lv_if_eq (tgt := 22) S.1 S.2.1 dX7_room_10 (by decide) (fun c5 => ?_) (fun c5 => ?_)
  · replace h := (if_pos c5).symm.trans h
    refine lv_iconst (v := (-1 : Int32)) S.1 S.2.1 dX7_room_22 (by decide) ?_
    obtain ⟨rfl, rfl⟩ := s2 h
    exact fl_iret S.1 S.2.1 hr hlocks hW dX7_room_23
  · replace h := (if_neg c5).symm.trans h
    refine lv_iload_n S.1 S.2.1 dX7_room_13 rfl (lv_at hl 2 rfl) ?_
    refine lv_iconst (v := (0 : Int32)) S.1 S.2.1 dX7_room_14 (by decide) ?_
    refine lv_iconst (v := (2 : Int32)) S.1 S.2.1 dX7_room_15 (by decide) ?_
    obtain ⟨v7, u6, h⟩ := bP_some h
    refine fl_doneP (fl_runS S (kX7_in l p2 (0 : Int32) (2 : Int32) v7 u6) (va_cwS 3 S.2.2.2.2 (gS q_289 q_290 q_291 q_288) rfl rfl rfl (by decide +kernel) ⟨Nat.le_of_ble_eq_true rfl, Nat.le_of_ble_eq_true rfl⟩) rfl hl.1 rfl (Nat.le_of_ble_eq_true rfl) dX7_room_16 ⟨Nat.zero_le _, Nat.zero_le _⟩) hW (fun H locs hW => ?_)
    refine lv_if_ne (tgt := 24) S.1 S.2.1 dX7_room_19 (by decide) (fun c8 => ?_) (fun c8 => ?_)
    · replace h := (if_neg c8).symm.trans h
      refine lv_iload_n S.1 S.2.1 dX7_room_24 rfl (lv_at hl 2 rfl) ?_
      refine lv_if_ne (tgt := 39) S.1 S.2.1 dX7_room_25 (by decide) (fun c9 => ?_) (fun c9 => ?_)
      · replace h := (if_neg c9).symm.trans h
        refine lv_iload_n S.1 S.2.1 dX7_room_39 rfl (lv_at hl 2 rfl) ?_
        refine lv_iconst (v := (1 : Int32)) S.1 S.2.1 dX7_room_40 (by decide) ?_
        refine lv_icmp_ne (tgt := 52) S.1 S.2.1 dX7_room_41 (by decide) (fun c11 => ?_) (fun c11 => ?_)
        · replace h := (if_neg c11).symm.trans h
          refine lv_aload_n S.1 S.2.1 dX7_room_52 rfl (lv_at hl 0 rfl) ?_
          refine lv_iload_n S.1 S.2.1 dX7_room_53 rfl (lv_at hl 1 rfl) ?_
          obtain ⟨v15, u14, h⟩ := bP_some h
          refine fl_doneI (fl_runV S hK hN (kX7_joinedWith l hJ p1 M1 v15 u14) (cwV 1 S.2.2.2.2 (gV q_354 q_355 q_356 q_291 q_353) rfl rfl rfl (by decide +kernel) ⟨Nat.le_of_ble_eq_true rfl, Nat.le_of_ble_eq_true rfl⟩) (ci := 7) rfl lM_0 sM_0 rfl hl.1 rfl (Nat.le_of_ble_eq_true rfl) dX7_room_54 ⟨Nat.zero_le _, Nat.zero_le _⟩ hW) hA hW.2 (fun H locs hW => ?_)
          obtain ⟨rfl, rfl⟩ := s2 h
          exact fl_iret S.1 S.2.1 hr hlocks hW dX7_room_57
        · replace h := (if_pos c11).symm.trans h
          refine lv_aload_n S.1 S.2.1 dX7_room_44 rfl (lv_at hl 0 rfl) ?_
          refine lv_iload_n S.1 S.2.1 dX7_room_45 rfl (lv_at hl 1 rfl) ?_
          obtain ⟨v13, u12, h⟩ := bP_some h
          refine fl_doneI (fl_runV S hK hN (kX7_ageOf l hJ p1 M1 v13 u12) (cwV 1 S.2.2.2.2 (gV q_378 q_379 q_380 q_291 q_377) rfl rfl rfl (by decide +kernel) ⟨Nat.le_of_ble_eq_true rfl, Nat.le_of_ble_eq_true rfl⟩) (ci := 7) rfl lM_0 sM_0 rfl hl.1 rfl (Nat.le_of_ble_eq_true rfl) dX7_room_46 ⟨Nat.zero_le _, Nat.zero_le _⟩ hW) hA hW.2 (fun H locs hW => ?_)
          refine lv_goto (tgt := 57) S.1 S.2.1 dX7_room_49 (by decide) ?_
          obtain ⟨rfl, rfl⟩ := s2 h
          exact fl_iret S.1 S.2.1 hr hlocks hW dX7_room_57
      · replace h := (if_pos c9).symm.trans h
        refine lv_aload_n S.1 S.2.1 dX7_room_28 rfl (lv_at hl 0 rfl) ?_
        refine fl_get S hK iX7 rfl lM_0 sM_0 14 (by decide) (hq _ q_327) (fun _ h9 => h9) (fvs_R rfl rfl) hW dX7_room_29 ?_
        refine lv_iconst (v := (1 : Int32)) S.1 S.2.1 dX7_room_32 (by decide) ?_
        refine lv_iload_n S.1 S.2.1 dX7_room_33 rfl (lv_at hl 1 rfl) ?_
        refine lv_iadd S.1 S.2.1 dX7_room_34 ?_
        obtain ⟨g10, h⟩ := ix_some h
        refine fl_iald S hK lM_6 sM_6 g10 hW dX7_room_35 ?_
        refine lv_goto (tgt := 57) S.1 S.2.1 dX7_room_36 (by decide) ?_
        obtain ⟨rfl, rfl⟩ := s2 h
        exact fl_iret S.1 S.2.1 hr hlocks hW dX7_room_57
    · replace h := (if_pos c8).symm.trans h
      refine lv_iconst (v := (-1 : Int32)) S.1 S.2.1 dX7_room_22 (by decide) ?_
      obtain ⟨rfl, rfl⟩ := s2 h
      exact fl_iret S.1 S.2.1 hr hlocks hW dX7_room_23
def fX7_child (p1 : Int32) (p2 : Int32) (M : Mm) : Option (Int32 × Mm) :=
  lt (wI M 0 0 (0 : Int32)) (fun (M1 : Mm) => bP (fX7_isChild p1 M1) (fun (v4 : Int32) => if v4 = 0 then (some ((-1 : Int32), M1)) else (bP (fX7_in p2 (0 : Int32) (3 : Int32)) (fun (v7 : Int32) => if v7 = 0 then (some ((-1 : Int32), M1)) else (if (2 : Int32) ≤ p2 then (if p2 = (3 : Int32) then (bP (fX7_worksOf p1 M1) (fun (v12 : Int32) => some (v12, M1))) else (bP (fX7_has (M1.1 6 ((14 : Int32)).toNatClampNeg) p1) (fun (v14 : Int32) => if v14 = 0 then (some ((-9 : Int32), M1)) else (ix ((15 : Int32) + p1) 21 (some (M1.1 6 ((15 : Int32) + p1).toNatClampNeg, M1)))))) else (if p2 = 0 then (some (((M1.1 6 ((13 : Int32)).toNatClampNeg) >>> (p1 &&& 31)) &&& (1 : Int32), M1)) else (some (((M1.1 6 ((14 : Int32)).toNatClampNeg) >>> (p1 &&& 31)) &&& (1 : Int32), M1))))))))
set_option maxHeartbeats 4000000 in
set_option maxRecDepth 100000 in
theorem kX7_child (l : Launch) {D : va_G} {cy : Nat → ClassId} {ad : Nat → Nat} (hJ : Inj ad 15)  (p1 : Int32) (p2 : Int32) (M : Mm) (r : Int32) (M' : Mm) (h : fX7_child p1 p2 M = some (r, M')) : Met l yX7_child vX7_child ({ frames := 3, cells := 0, slots := 0, locals := 66 } : Room) (PcF [.ref (ad 0), .int p1, .int p2] D cy ad kdV shM rfM 15 M) (QcI r D cy ad kdV shM rfM 15 M') 0 0 (AV ad 15) := by
  refine Met.ofW (cc := cX7_child) (maxL := 3) (ret := (some .int)) (by decide) rfl ?_
  intro p e s m args below meth c s₁ B hml hv
  obtain ⟨rfl, hP, hK, hN⟩ := hv
  have hr := B.returns
  have hlocks := B.notSynchronized
  have S : CallFix p m c cX7_child 3 s ([.ref (ad 0), .int p1, .int p2] : List Value).toArray vX7_child RX7 := ⟨B.exec, B.bytes, hml, findClass_of_methodNamed B.named, atoms_spec (ws := vX7_child) B.pre⟩
  have hq : ∀ w ∈ GW, w.before ([.ref (ad 0), .int p1, .int p2] : List Value).toArray s = true := fun w h => S.2.2.2.2 w (List.mem_cons_of_mem _ h)
  have hA : ∀ k, k < 15 → AV ad 15 (ad k) := fun k hk => ⟨k, hk, rfl⟩
  have hW : WSt D cy ad kdV shM rfM 15 (AV ad 15) M s.heap s.heap [] := ⟨hP, va_S.rf⟩
  clear hP
  have iX7 : ∀ w ∈ wsX70, w ∈ vX7_child := fun w h => List.mem_cons_of_mem _ (inX7 w h)
  have hl := lv_entry ([.ref (ad 0), .int p1, .int p2]) (n := 3) (Nat.le_of_ble_eq_true rfl)
  rw [lg_entry_eq]
  generalize (lg_sl ([.ref (ad 0), .int p1, .int p2]) ++ List.replicate (3 - (lg_sl ([.ref (ad 0), .int p1, .int p2])).length) Slot.unset).toArray = ls at hl ⊢
  have hl : lv_has ls 3 [(0, .ref (ad 0)), (1, .int p1), (2, .int p2)] := hl
  rw [fX7_child] at h
  refine lv_aload_n S.1 S.2.1 dX7_child_0 rfl (lv_at hl 0 rfl) ?_
  refine lv_iconst (v := (0 : Int32)) S.1 S.2.1 dX7_child_1 (by decide) ?_
  refine fl_put S hK hJ hA tyX7 tyX7_ok nmX7 iX7 rfl lM_0 sM_0 0 (by decide) (hq _ q_287) (fun _ h9 => h9) rfl (ty := .int) rfl rfl rfl (wI M 0 0 (0 : Int32)) (by decide) (fvs_setI _ _ _ _ _ _ _ rfl) (fun j _ hj => cof_wI_ne hj) hW dX7_child_2 (fun H locs hW => ?_)
  obtain ⟨M1, e2, h⟩ := lt_some h
  rw [e2] at hW
  clear e2
  refine lv_aload_n S.1 S.2.1 dX7_child_5 rfl (lv_at hl 0 rfl) ?_
  refine lv_iload_n S.1 S.2.1 dX7_child_6 rfl (lv_at hl 1 rfl) ?_
  obtain ⟨v4, u3, h⟩ := bP_some h
  refine fl_doneI (fl_runV S hK hN (kX7_isChild l hJ p1 M1 v4 u3) (cwV 1 S.2.2.2.2 (gV q_382 q_383 q_384 q_291 q_381) rfl rfl rfl (by decide +kernel) ⟨Nat.le_of_ble_eq_true rfl, Nat.le_of_ble_eq_true rfl⟩) (ci := 7) rfl lM_0 sM_0 rfl hl.1 rfl (Nat.le_of_ble_eq_true rfl) dX7_child_7 ⟨Nat.zero_le _, Nat.zero_le _⟩ hW) hA hW.2 (fun H locs hW => ?_)
  refine lv_if_eq (tgt := 22) S.1 S.2.1 dX7_child_10 (by decide) (fun c5 => ?_) (fun c5 => ?_)
  · replace h := (if_pos c5).symm.trans h
    refine lv_iconst (v := (-1 : Int32)) S.1 S.2.1 dX7_child_22 (by decide) ?_
    obtain ⟨rfl, rfl⟩ := s2 h
    exact fl_iret S.1 S.2.1 hr hlocks hW dX7_child_23
  · replace h := (if_neg c5).symm.trans h
    refine lv_iload_n S.1 S.2.1 dX7_child_13 rfl (lv_at hl 2 rfl) ?_
    refine lv_iconst (v := (0 : Int32)) S.1 S.2.1 dX7_child_14 (by decide) ?_
    refine lv_iconst (v := (3 : Int32)) S.1 S.2.1 dX7_child_15 (by decide) ?_
    obtain ⟨v7, u6, h⟩ := bP_some h
    refine fl_doneP (fl_runS S (kX7_in l p2 (0 : Int32) (3 : Int32) v7 u6) (va_cwS 3 S.2.2.2.2 (gS q_289 q_290 q_291 q_288) rfl rfl rfl (by decide +kernel) ⟨Nat.le_of_ble_eq_true rfl, Nat.le_of_ble_eq_true rfl⟩) rfl hl.1 rfl (Nat.le_of_ble_eq_true rfl) dX7_child_16 ⟨Nat.zero_le _, Nat.zero_le _⟩) hW (fun H locs hW => ?_)
    refine lv_if_ne (tgt := 24) S.1 S.2.1 dX7_child_19 (by decide) (fun c8 => ?_) (fun c8 => ?_)
    · replace h := (if_neg c8).symm.trans h
      refine lv_iload_n S.1 S.2.1 dX7_child_24 rfl (lv_at hl 2 rfl) ?_
      refine lv_iconst (v := (2 : Int32)) S.1 S.2.1 dX7_child_25 (by decide) ?_
      refine lv_icmp_ge (tgt := 55) S.1 S.2.1 dX7_child_26 (by decide) (fun c9 => ?_) (fun c9 => ?_)
      · replace h := (if_pos c9).symm.trans h
        refine lv_iload_n S.1 S.2.1 dX7_child_55 rfl (lv_at hl 2 rfl) ?_
        refine lv_iconst (v := (3 : Int32)) S.1 S.2.1 dX7_child_56 (by decide) ?_
        refine lv_icmp_ne (tgt := 68) S.1 S.2.1 dX7_child_57 (by decide) (fun c10 => ?_) (fun c10 => ?_)
        · replace h := (if_neg c10).symm.trans h
          refine lv_aload_n S.1 S.2.1 dX7_child_68 rfl (lv_at hl 0 rfl) ?_
          refine fl_get S hK iX7 rfl lM_0 sM_0 14 (by decide) (hq _ q_327) (fun _ h9 => h9) (fvs_R rfl rfl) hW dX7_child_69 ?_
          refine lv_bipush (v := (14 : Int32)) S.1 S.2.1 dX7_child_72 (by decide) ?_
          refine fl_iald S hK lM_6 sM_6 (vp_dec (i := (14 : Int32)) (n := 21) (by decide)) hW dX7_child_74 ?_
          refine lv_iload_n S.1 S.2.1 dX7_child_75 rfl (lv_at hl 1 rfl) ?_
          obtain ⟨v14, u13, h⟩ := bP_some h
          refine fl_doneP (fl_runS S (kX7_has l (M1.1 6 ((14 : Int32)).toNatClampNeg) p1 v14 u13) (va_cwS 2 S.2.2.2.2 (gS q_348 q_349 q_291 q_347) rfl rfl rfl (by decide +kernel) ⟨Nat.le_of_ble_eq_true rfl, Nat.le_of_ble_eq_true rfl⟩) rfl hl.1 rfl (Nat.le_of_ble_eq_true rfl) dX7_child_76 ⟨Nat.zero_le _, Nat.zero_le _⟩) hW (fun H locs hW => ?_)
          refine lv_if_eq (tgt := 94) S.1 S.2.1 dX7_child_79 (by decide) (fun c15 => ?_) (fun c15 => ?_)
          · replace h := (if_pos c15).symm.trans h
            refine lv_bipush (v := (-9 : Int32)) S.1 S.2.1 dX7_child_94 (by decide) ?_
            obtain ⟨rfl, rfl⟩ := s2 h
            exact fl_iret S.1 S.2.1 hr hlocks hW dX7_child_96
          · replace h := (if_neg c15).symm.trans h
            refine lv_aload_n S.1 S.2.1 dX7_child_82 rfl (lv_at hl 0 rfl) ?_
            refine fl_get S hK iX7 rfl lM_0 sM_0 14 (by decide) (hq _ q_327) (fun _ h9 => h9) (fvs_R rfl rfl) hW dX7_child_83 ?_
            refine lv_bipush (v := (15 : Int32)) S.1 S.2.1 dX7_child_86 (by decide) ?_
            refine lv_iload_n S.1 S.2.1 dX7_child_88 rfl (lv_at hl 1 rfl) ?_
            refine lv_iadd S.1 S.2.1 dX7_child_89 ?_
            obtain ⟨g16, h⟩ := ix_some h
            refine fl_iald S hK lM_6 sM_6 g16 hW dX7_child_90 ?_
            refine lv_goto (tgt := 96) S.1 S.2.1 dX7_child_91 (by decide) ?_
            obtain ⟨rfl, rfl⟩ := s2 h
            exact fl_iret S.1 S.2.1 hr hlocks hW dX7_child_96
        · replace h := (if_pos c10).symm.trans h
          refine lv_aload_n S.1 S.2.1 dX7_child_60 rfl (lv_at hl 0 rfl) ?_
          refine lv_iload_n S.1 S.2.1 dX7_child_61 rfl (lv_at hl 1 rfl) ?_
          obtain ⟨v12, u11, h⟩ := bP_some h
          refine fl_doneI (fl_runV S hK hN (kX7_worksOf l hJ p1 M1 v12 u11) (cwV 1 S.2.2.2.2 (gV q_366 q_367 q_368 q_291 q_365) rfl rfl rfl (by decide +kernel) ⟨Nat.le_of_ble_eq_true rfl, Nat.le_of_ble_eq_true rfl⟩) (ci := 7) rfl lM_0 sM_0 rfl hl.1 rfl (Nat.le_of_ble_eq_true rfl) dX7_child_62 ⟨Nat.zero_le _, Nat.zero_le _⟩ hW) hA hW.2 (fun H locs hW => ?_)
          refine lv_goto (tgt := 96) S.1 S.2.1 dX7_child_65 (by decide) ?_
          obtain ⟨rfl, rfl⟩ := s2 h
          exact fl_iret S.1 S.2.1 hr hlocks hW dX7_child_96
      · replace h := (if_neg c9).symm.trans h
        refine lv_iload_n S.1 S.2.1 dX7_child_29 rfl (lv_at hl 2 rfl) ?_
        refine lv_if_ne (tgt := 43) S.1 S.2.1 dX7_child_30 (by decide) (fun c17 => ?_) (fun c17 => ?_)
        · replace h := (if_neg c17).symm.trans h
          refine lv_aload_n S.1 S.2.1 dX7_child_43 rfl (lv_at hl 0 rfl) ?_
          refine fl_get S hK iX7 rfl lM_0 sM_0 14 (by decide) (hq _ q_327) (fun _ h9 => h9) (fvs_R rfl rfl) hW dX7_child_44 ?_
          refine lv_bipush (v := (14 : Int32)) S.1 S.2.1 dX7_child_47 (by decide) ?_
          refine fl_iald S hK lM_6 sM_6 (vp_dec (i := (14 : Int32)) (n := 21) (by decide)) hW dX7_child_49 ?_
          refine lv_iload_n S.1 S.2.1 dX7_child_50 rfl (lv_at hl 1 rfl) ?_
          refine lv_ishr S.1 S.2.1 dX7_child_51 ?_
          refine lv_iconst (v := (1 : Int32)) S.1 S.2.1 dX7_child_52 (by decide) ?_
          refine lv_iand S.1 S.2.1 dX7_child_53 ?_
          obtain ⟨rfl, rfl⟩ := s2 h
          exact fl_iret S.1 S.2.1 hr hlocks hW dX7_child_54
        · replace h := (if_pos c17).symm.trans h
          refine lv_aload_n S.1 S.2.1 dX7_child_33 rfl (lv_at hl 0 rfl) ?_
          refine fl_get S hK iX7 rfl lM_0 sM_0 14 (by decide) (hq _ q_327) (fun _ h9 => h9) (fvs_R rfl rfl) hW dX7_child_34 ?_
          refine lv_bipush (v := (13 : Int32)) S.1 S.2.1 dX7_child_37 (by decide) ?_
          refine fl_iald S hK lM_6 sM_6 (vp_dec (i := (13 : Int32)) (n := 21) (by decide)) hW dX7_child_39 ?_
          refine lv_goto (tgt := 50) S.1 S.2.1 dX7_child_40 (by decide) ?_
          refine lv_iload_n S.1 S.2.1 dX7_child_50 rfl (lv_at hl 1 rfl) ?_
          refine lv_ishr S.1 S.2.1 dX7_child_51 ?_
          refine lv_iconst (v := (1 : Int32)) S.1 S.2.1 dX7_child_52 (by decide) ?_
          refine lv_iand S.1 S.2.1 dX7_child_53 ?_
          obtain ⟨rfl, rfl⟩ := s2 h
          exact fl_iret S.1 S.2.1 hr hlocks hW dX7_child_54
    · replace h := (if_pos c8).symm.trans h
      refine lv_iconst (v := (-1 : Int32)) S.1 S.2.1 dX7_child_22 (by decide) ?_
      obtain ⟨rfl, rfl⟩ := s2 h
      exact fl_iret S.1 S.2.1 hr hlocks hW dX7_child_23
def fX7_work (p1 : Int32) (p2 : Int32) (M : Mm) : Option (Int32 × Mm) :=
  lt (wI M 0 0 (0 : Int32)) (fun (M1 : Mm) => bP (fX7_isWork p1 M1) (fun (v4 : Int32) => if v4 = 0 then (some ((-1 : Int32), M1)) else (bP (fX7_in p2 (0 : Int32) (3 : Int32)) (fun (v7 : Int32) => if v7 = 0 then (some ((-1 : Int32), M1)) else (if p2 = 0 then (ix p1 10 (some (M1.1 4 (p1).toNatClampNeg, M1))) else (if p2 = (1 : Int32) then (ix p1 10 (some (M1.1 5 (p1).toNatClampNeg, M1))) else (if p2 = (2 : Int32) then (bP (fX7_whoCan p1 M1) (fun (v15 : Int32) => some (v15, M1))) else (bP (fX7_lastsOf p1 M1) (fun (v17 : Int32) => some (v17, M1))))))))))
set_option maxHeartbeats 4000000 in
set_option maxRecDepth 100000 in
theorem kX7_work (l : Launch) {D : va_G} {cy : Nat → ClassId} {ad : Nat → Nat} (hJ : Inj ad 15)  (p1 : Int32) (p2 : Int32) (M : Mm) (r : Int32) (M' : Mm) (h : fX7_work p1 p2 M = some (r, M')) : Met l yX7_work vX7_work ({ frames := 4, cells := 0, slots := 0, locals := 89 } : Room) (PcF [.ref (ad 0), .int p1, .int p2] D cy ad kdV shM rfM 15 M) (QcI r D cy ad kdV shM rfM 15 M') 0 0 (AV ad 15) := by
  refine Met.ofW (cc := cX7_work) (maxL := 3) (ret := (some .int)) (by decide) rfl ?_
  intro p e s m args below meth c s₁ B hml hv
  obtain ⟨rfl, hP, hK, hN⟩ := hv
  have hr := B.returns
  have hlocks := B.notSynchronized
  have S : CallFix p m c cX7_work 3 s ([.ref (ad 0), .int p1, .int p2] : List Value).toArray vX7_work RX7 := ⟨B.exec, B.bytes, hml, findClass_of_methodNamed B.named, atoms_spec (ws := vX7_work) B.pre⟩
  have hq : ∀ w ∈ GW, w.before ([.ref (ad 0), .int p1, .int p2] : List Value).toArray s = true := fun w h => S.2.2.2.2 w (List.mem_cons_of_mem _ h)
  have hA : ∀ k, k < 15 → AV ad 15 (ad k) := fun k hk => ⟨k, hk, rfl⟩
  have hW : WSt D cy ad kdV shM rfM 15 (AV ad 15) M s.heap s.heap [] := ⟨hP, va_S.rf⟩
  clear hP
  have iX7 : ∀ w ∈ wsX70, w ∈ vX7_work := fun w h => List.mem_cons_of_mem _ (inX7 w h)
  have hl := lv_entry ([.ref (ad 0), .int p1, .int p2]) (n := 3) (Nat.le_of_ble_eq_true rfl)
  rw [lg_entry_eq]
  generalize (lg_sl ([.ref (ad 0), .int p1, .int p2]) ++ List.replicate (3 - (lg_sl ([.ref (ad 0), .int p1, .int p2])).length) Slot.unset).toArray = ls at hl ⊢
  have hl : lv_has ls 3 [(0, .ref (ad 0)), (1, .int p1), (2, .int p2)] := hl
  rw [fX7_work] at h
  refine lv_aload_n S.1 S.2.1 dX7_work_0 rfl (lv_at hl 0 rfl) ?_
  refine lv_iconst (v := (0 : Int32)) S.1 S.2.1 dX7_work_1 (by decide) ?_
  refine fl_put S hK hJ hA tyX7 tyX7_ok nmX7 iX7 rfl lM_0 sM_0 0 (by decide) (hq _ q_287) (fun _ h9 => h9) rfl (ty := .int) rfl rfl rfl (wI M 0 0 (0 : Int32)) (by decide) (fvs_setI _ _ _ _ _ _ _ rfl) (fun j _ hj => cof_wI_ne hj) hW dX7_work_2 (fun H locs hW => ?_)
  obtain ⟨M1, e2, h⟩ := lt_some h
  rw [e2] at hW
  clear e2
  refine lv_aload_n S.1 S.2.1 dX7_work_5 rfl (lv_at hl 0 rfl) ?_
  refine lv_iload_n S.1 S.2.1 dX7_work_6 rfl (lv_at hl 1 rfl) ?_
  obtain ⟨v4, u3, h⟩ := bP_some h
  refine fl_doneI (fl_runV S hK hN (kX7_isWork l hJ p1 M1 v4 u3) (cwV 1 S.2.2.2.2 (gV q_386 q_387 q_388 q_291 q_385) rfl rfl rfl (by decide +kernel) ⟨Nat.le_of_ble_eq_true rfl, Nat.le_of_ble_eq_true rfl⟩) (ci := 7) rfl lM_0 sM_0 rfl hl.1 rfl (Nat.le_of_ble_eq_true rfl) dX7_work_7 ⟨Nat.zero_le _, Nat.zero_le _⟩ hW) hA hW.2 (fun H locs hW => ?_)
  refine lv_if_eq (tgt := 22) S.1 S.2.1 dX7_work_10 (by decide) (fun c5 => ?_) (fun c5 => ?_)
  · replace h := (if_pos c5).symm.trans h
    refine lv_iconst (v := (-1 : Int32)) S.1 S.2.1 dX7_work_22 (by decide) ?_
    obtain ⟨rfl, rfl⟩ := s2 h
    exact fl_iret S.1 S.2.1 hr hlocks hW dX7_work_23
  · replace h := (if_neg c5).symm.trans h
    refine lv_iload_n S.1 S.2.1 dX7_work_13 rfl (lv_at hl 2 rfl) ?_
    refine lv_iconst (v := (0 : Int32)) S.1 S.2.1 dX7_work_14 (by decide) ?_
    refine lv_iconst (v := (3 : Int32)) S.1 S.2.1 dX7_work_15 (by decide) ?_
    obtain ⟨v7, u6, h⟩ := bP_some h
    refine fl_doneP (fl_runS S (kX7_in l p2 (0 : Int32) (3 : Int32) v7 u6) (va_cwS 3 S.2.2.2.2 (gS q_289 q_290 q_291 q_288) rfl rfl rfl (by decide +kernel) ⟨Nat.le_of_ble_eq_true rfl, Nat.le_of_ble_eq_true rfl⟩) rfl hl.1 rfl (Nat.le_of_ble_eq_true rfl) dX7_work_16 ⟨Nat.zero_le _, Nat.zero_le _⟩) hW (fun H locs hW => ?_)
    refine lv_if_ne (tgt := 24) S.1 S.2.1 dX7_work_19 (by decide) (fun c8 => ?_) (fun c8 => ?_)
    · replace h := (if_neg c8).symm.trans h
      refine lv_iload_n S.1 S.2.1 dX7_work_24 rfl (lv_at hl 2 rfl) ?_
      refine lv_if_ne (tgt := 37) S.1 S.2.1 dX7_work_25 (by decide) (fun c9 => ?_) (fun c9 => ?_)
      · replace h := (if_neg c9).symm.trans h
        refine lv_iload_n S.1 S.2.1 dX7_work_37 rfl (lv_at hl 2 rfl) ?_
        refine lv_iconst (v := (1 : Int32)) S.1 S.2.1 dX7_work_38 (by decide) ?_
        refine lv_icmp_ne (tgt := 51) S.1 S.2.1 dX7_work_39 (by decide) (fun c11 => ?_) (fun c11 => ?_)
        · replace h := (if_neg c11).symm.trans h
          refine lv_iload_n S.1 S.2.1 dX7_work_51 rfl (lv_at hl 2 rfl) ?_
          refine lv_iconst (v := (2 : Int32)) S.1 S.2.1 dX7_work_52 (by decide) ?_
          refine lv_icmp_ne (tgt := 64) S.1 S.2.1 dX7_work_53 (by decide) (fun c13 => ?_) (fun c13 => ?_)
          · replace h := (if_neg c13).symm.trans h
            refine lv_aload_n S.1 S.2.1 dX7_work_64 rfl (lv_at hl 0 rfl) ?_
            refine lv_iload_n S.1 S.2.1 dX7_work_65 rfl (lv_at hl 1 rfl) ?_
            obtain ⟨v17, u16, h⟩ := bP_some h
            refine fl_doneI (fl_runV S hK hN (kX7_lastsOf l hJ p1 M1 v17 u16) (cwV 1 S.2.2.2.2 (gV q_394 q_395 q_396 q_291 q_393) rfl rfl rfl (by decide +kernel) ⟨Nat.le_of_ble_eq_true rfl, Nat.le_of_ble_eq_true rfl⟩) (ci := 7) rfl lM_0 sM_0 rfl hl.1 rfl (Nat.le_of_ble_eq_true rfl) dX7_work_66 ⟨Nat.zero_le _, Nat.zero_le _⟩ hW) hA hW.2 (fun H locs hW => ?_)
            obtain ⟨rfl, rfl⟩ := s2 h
            exact fl_iret S.1 S.2.1 hr hlocks hW dX7_work_69
          · replace h := (if_pos c13).symm.trans h
            refine lv_aload_n S.1 S.2.1 dX7_work_56 rfl (lv_at hl 0 rfl) ?_
            refine lv_iload_n S.1 S.2.1 dX7_work_57 rfl (lv_at hl 1 rfl) ?_
            obtain ⟨v15, u14, h⟩ := bP_some h
            refine fl_doneI (fl_runV S hK hN (kX7_whoCan l hJ p1 M1 v15 u14) (cwV 1 S.2.2.2.2 (gV q_390 q_391 q_392 q_291 q_389) rfl rfl rfl (by decide +kernel) ⟨Nat.le_of_ble_eq_true rfl, Nat.le_of_ble_eq_true rfl⟩) (ci := 7) rfl lM_0 sM_0 rfl hl.1 rfl (Nat.le_of_ble_eq_true rfl) dX7_work_58 ⟨Nat.zero_le _, Nat.zero_le _⟩ hW) hA hW.2 (fun H locs hW => ?_)
            refine lv_goto (tgt := 69) S.1 S.2.1 dX7_work_61 (by decide) ?_
            obtain ⟨rfl, rfl⟩ := s2 h
            exact fl_iret S.1 S.2.1 hr hlocks hW dX7_work_69
        · replace h := (if_pos c11).symm.trans h
          refine lv_aload_n S.1 S.2.1 dX7_work_42 rfl (lv_at hl 0 rfl) ?_
          refine fl_get S hK iX7 rfl lM_0 sM_0 13 (by decide) (hq _ q_326) (fun _ h9 => h9) (fvs_R rfl rfl) hW dX7_work_43 ?_
          refine lv_iload_n S.1 S.2.1 dX7_work_46 rfl (lv_at hl 1 rfl) ?_
          obtain ⟨g12, h⟩ := ix_some h
          refine fl_iald S hK lM_5 sM_5 g12 hW dX7_work_47 ?_
          refine lv_goto (tgt := 69) S.1 S.2.1 dX7_work_48 (by decide) ?_
          obtain ⟨rfl, rfl⟩ := s2 h
          exact fl_iret S.1 S.2.1 hr hlocks hW dX7_work_69
      · replace h := (if_pos c9).symm.trans h
        refine lv_aload_n S.1 S.2.1 dX7_work_28 rfl (lv_at hl 0 rfl) ?_
        refine fl_get S hK iX7 rfl lM_0 sM_0 12 (by decide) (hq _ q_325) (fun _ h9 => h9) (fvs_R rfl rfl) hW dX7_work_29 ?_
        refine lv_iload_n S.1 S.2.1 dX7_work_32 rfl (lv_at hl 1 rfl) ?_
        obtain ⟨g10, h⟩ := ix_some h
        refine fl_iald S hK lM_4 sM_4 g10 hW dX7_work_33 ?_
        refine lv_goto (tgt := 69) S.1 S.2.1 dX7_work_34 (by decide) ?_
        obtain ⟨rfl, rfl⟩ := s2 h
        exact fl_iret S.1 S.2.1 hr hlocks hW dX7_work_69
    · replace h := (if_pos c8).symm.trans h
      refine lv_iconst (v := (-1 : Int32)) S.1 S.2.1 dX7_work_22 (by decide) ?_
      obtain ⟨rfl, rfl⟩ := s2 h
      exact fl_iret S.1 S.2.1 hr hlocks hW dX7_work_23
def fX7_asNow_L2  : Nat → Int32 → Mm → Option (Int32 × Mm)
  | 0, _, _ => none
  | n + 1, x1, Ml => if (6 : Int32) ≤ x1 then (some (x1, Ml)) else (if (Ml.1 2 ((1 : Int32)).toNatClampNeg) ≤ x1 then (ix x1 6 (lt (wI Ml 12 (x1).toNatClampNeg (0 : Int32)) (fun (M6 : Mm) => fX7_asNow_L2 n (x1 + (1 : Int32)) M6))) else (bP (fX7_worksOf x1 Ml) (fun (v9 : Int32) => ix x1 6 (lt (wI Ml 12 (x1).toNatClampNeg v9) (fun (M11 : Mm) => fX7_asNow_L2 n (x1 + (1 : Int32)) M11)))))
def fX7_asNow (M : Mm) : Option (Mm) :=
  b2 (fX7_asNow_L2 50000 (0 : Int32) M) (fun (w1 : Int32) (M2 : Mm) => some M2)
set_option maxHeartbeats 4000000 in
set_option maxRecDepth 100000 in
theorem kX7_asNow (l : Launch) {D : va_G} {cy : Nat → ClassId} {ad : Nat → Nat} (hJ : Inj ad 15)   (M : Mm) (M' : Mm) (h : fX7_asNow M = some M') : Met l yX7_asNow vX7_asNow ({ frames := 3, cells := 0, slots := 0, locals := 66 } : Room) (PcF [.ref (ad 0)] D cy ad kdV shM rfM 15 M) (QcV D cy ad kdV shM rfM 15 M') 0 0 (AV ad 15) := by
  refine Met.ofW (cc := cX7_asNow) (maxL := 2) (ret := none) (by decide) rfl ?_
  intro p e s m args below meth c s₁ B hml hv
  obtain ⟨rfl, hP, hK, hN⟩ := hv
  have hr := B.returns
  have hlocks := B.notSynchronized
  have S : CallFix p m c cX7_asNow 2 s ([.ref (ad 0)] : List Value).toArray vX7_asNow RX7 := ⟨B.exec, B.bytes, hml, findClass_of_methodNamed B.named, atoms_spec (ws := vX7_asNow) B.pre⟩
  have hq : ∀ w ∈ GW, w.before ([.ref (ad 0)] : List Value).toArray s = true := fun w h => S.2.2.2.2 w (List.mem_cons_of_mem _ h)
  have hA : ∀ k, k < 15 → AV ad 15 (ad k) := fun k hk => ⟨k, hk, rfl⟩
  have hW : WSt D cy ad kdV shM rfM 15 (AV ad 15) M s.heap s.heap [] := ⟨hP, va_S.rf⟩
  clear hP
  have iX7 : ∀ w ∈ wsX70, w ∈ vX7_asNow := fun w h => List.mem_cons_of_mem _ (inX7 w h)
  have hl := lv_entry ([.ref (ad 0)]) (n := 2) (Nat.le_of_ble_eq_true rfl)
  rw [lg_entry_eq]
  generalize (lg_sl ([.ref (ad 0)]) ++ List.replicate (2 - (lg_sl ([.ref (ad 0)])).length) Slot.unset).toArray = ls at hl ⊢
  have hl : lv_has ls 2 [(0, .ref (ad 0))] := hl
  rw [fX7_asNow] at h
  refine lv_iconst (v := (0 : Int32)) S.1 S.2.1 dX7_asNow_0 (by decide) ?_
  refine lv_istore_n (lv' := [(1, .int (0 : Int32)), (0, .ref (ad 0))]) S.1 S.2.1 dX7_asNow_1 rfl hl (by decide) rfl (fun ls hl => ?_)
  have L2 : ∀ (n : Nat) (x1 : Int32) (Ml : Mm) (w1 : Int32) (M2 : Mm), fX7_asNow_L2 n x1 Ml = some (w1, M2) → ∀ (H : Heap) (locs : List Loc) (ls : Array Slot), lv_has ls 2 [(0, .ref (ad 0)), (1, .int x1)] → WSt D cy ad kdV shM rfM 15 (AV ad 15) Ml s.heap H locs → (∀ (H : Heap) (locs : List Loc) (ls : Array Slot), lv_has ls 2 [(0, .ref (ad 0)), (1, .int w1)] → WSt D cy ad kdV shM rfM 15 (AV ad 15) M2 s.heap H locs → W p l e (headSpec vX7_asNow ({ frames := 3, cells := 0, slots := 0, locals := 66 } : Room)).room s m ([.ref (ad 0)] : List Value).toArray below meth c H locs 0 0 (MQ below (QcV D cy ad kdV shM rfM 15 M') ([.ref (ad 0)] : List Value).toArray s 0 0 (AV ad 15)) (F0 m 39 ls [])) → W p l e (headSpec vX7_asNow ({ frames := 3, cells := 0, slots := 0, locals := 66 } : Room)).room s m ([.ref (ad 0)] : List Value).toArray below meth c H locs 0 0 (MQ below (QcV D cy ad kdV shM rfM 15 M') ([.ref (ad 0)] : List Value).toArray s 0 0 (AV ad 15)) (F0 m 2 ls []) := by
    intro n
    induction n with
    | zero => intro x1 Ml w1 M2 h; cases h
    | succ n ih =>
      intro x1 Ml w1 M2 h H locs ls hl hW K
      rw [fX7_asNow_L2] at h
      refine lv_iload_n S.1 S.2.1 dX7_asNow_2 rfl (lv_at hl 1 rfl) ?_
      refine lv_bipush (v := (6 : Int32)) S.1 S.2.1 dX7_asNow_3 (by decide) ?_
      refine lv_icmp_ge (tgt := 39) S.1 S.2.1 dX7_asNow_5 (by decide) (fun c3 => ?_) (fun c3 => ?_)
      · replace h := (if_pos c3).symm.trans h
        obtain ⟨rfl, rfl⟩ := s2 h
        exact K _ _ _ hl hW
      · replace h := (if_neg c3).symm.trans h
        refine lv_aload_n S.1 S.2.1 dX7_asNow_8 rfl (lv_at hl 0 rfl) ?_
        refine fl_get S hK iX7 rfl lM_0 sM_0 22 (by decide) (hq _ q_397) (fun _ h9 => h9) (fvs_R rfl rfl) hW dX7_asNow_9 ?_
        refine lv_iload_n S.1 S.2.1 dX7_asNow_12 rfl (lv_at hl 1 rfl) ?_
        refine lv_iload_n S.1 S.2.1 dX7_asNow_13 rfl (lv_at hl 1 rfl) ?_
        refine lv_aload_n S.1 S.2.1 dX7_asNow_14 rfl (lv_at hl 0 rfl) ?_
        refine fl_get S hK iX7 rfl lM_0 sM_0 10 (by decide) (hq _ q_319) (fun _ h9 => h9) (fvs_R rfl rfl) hW dX7_asNow_15 ?_
        refine lv_iconst (v := (1 : Int32)) S.1 S.2.1 dX7_asNow_18 (by decide) ?_
        refine fl_iald S hK lM_2 sM_2 (vp_dec (i := (1 : Int32)) (n := 8) (by decide)) hW dX7_asNow_19 ?_
        refine lv_icmp_ge (tgt := 31) S.1 S.2.1 dX7_asNow_20 (by decide) (fun c4 => ?_) (fun c4 => ?_)
        · replace h := (if_pos c4).symm.trans h
          refine lv_iconst (v := (0 : Int32)) S.1 S.2.1 dX7_asNow_31 (by decide) ?_
          obtain ⟨g5, h⟩ := ix_some h
          refine fl_iast S hK hJ hA lM_12 sM_12 g5 hW dX7_asNow_32 (fun H locs hW => ?_)
          obtain ⟨M6, e7, h⟩ := lt_some h
          rw [e7] at hW
          clear e7
          refine lv_iinc (v := x1 + (1 : Int32)) (lv' := [(1, .int (x1 + (1 : Int32))), (0, .ref (ad 0))]) S.1 S.2.1 dX7_asNow_33 hl (k := 1) rfl rfl (by decide) rfl (fun ls hl => ?_)
          refine lv_goto (tgt := 2) S.1 S.2.1 dX7_asNow_36 (by decide) ?_
          exact ih _ _ _ _ h _ _ _ (lv_sub hl [1, 0] rfl) hW K
        · replace h := (if_neg c4).symm.trans h
          refine lv_aload_n S.1 S.2.1 dX7_asNow_23 rfl (lv_at hl 0 rfl) ?_
          refine lv_iload_n S.1 S.2.1 dX7_asNow_24 rfl (lv_at hl 1 rfl) ?_
          obtain ⟨v9, u8, h⟩ := bP_some h
          refine fl_doneI (fl_runV S hK hN (kX7_worksOf l hJ x1 Ml v9 u8) (cwV 1 S.2.2.2.2 (gV q_366 q_367 q_368 q_291 q_365) rfl rfl rfl (by decide +kernel) ⟨Nat.le_of_ble_eq_true rfl, Nat.le_of_ble_eq_true rfl⟩) (ci := 7) rfl lM_0 sM_0 rfl hl.1 rfl (Nat.le_of_ble_eq_true rfl) dX7_asNow_25 ⟨Nat.zero_le _, Nat.zero_le _⟩ hW) hA hW.2 (fun H locs hW => ?_)
          refine lv_goto (tgt := 32) S.1 S.2.1 dX7_asNow_28 (by decide) ?_
          obtain ⟨g10, h⟩ := ix_some h
          refine fl_iast S hK hJ hA lM_12 sM_12 g10 hW dX7_asNow_32 (fun H locs hW => ?_)
          obtain ⟨M11, e12, h⟩ := lt_some h
          rw [e12] at hW
          clear e12
          refine lv_iinc (v := x1 + (1 : Int32)) (lv' := [(1, .int (x1 + (1 : Int32))), (0, .ref (ad 0))]) S.1 S.2.1 dX7_asNow_33 hl (k := 1) rfl rfl (by decide) rfl (fun ls hl => ?_)
          refine lv_goto (tgt := 2) S.1 S.2.1 dX7_asNow_36 (by decide) ?_
          exact ih _ _ _ _ h _ _ _ (lv_sub hl [1, 0] rfl) hW K
  obtain ⟨w1, M2, u13, h⟩ := b2_some h
  refine L2 50000 _ _ _ _ u13 _ _ _ (lv_sub hl [1, 0] rfl) hW (fun H locs ls hl hW => ?_)
  clear L2
  obtain rfl := s1 h
  exact fl_vret S.1 S.2.1 hr hlocks hW dX7_asNow_39
def fX7_sixes_L4 (p1 : Int32) : Nat → Int32 → Int32 → Option (Int32 × Int32)
  | 0, _, _ => none
  | n + 1, x2, x3 => if p1 ≤ x3 then (some (x2, x3)) else (fX7_sixes_L4 p1 n (x2 * (6 : Int32)) (x3 + (1 : Int32)))
def fX7_sixes (p1 : Int32) (M : Mm) : Option (Int32) :=
  b2 (fX7_sixes_L4 p1 50000 (1 : Int32) (0 : Int32)) (fun (w1 : Int32) (w2 : Int32) => some w1)
set_option maxHeartbeats 4000000 in
set_option maxRecDepth 100000 in
theorem kX7_sixes (l : Launch) {D : va_G} {cy : Nat → ClassId} {ad : Nat → Nat} (hJ : Inj ad 15)  (p1 : Int32) (M : Mm) (r : Int32) (h : fX7_sixes p1 M = some r) : Met l yX7_sixes vX7_sixes ({ frames := 0, cells := 0, slots := 0, locals := 0 } : Room) (PcF [.ref (ad 0), .int p1] D cy ad kdV shM rfM 15 M) (QcI r D cy ad kdV shM rfM 15 M) 0 0 (AV ad 15) := by
  refine Met.ofW (cc := cX7_sixes) (maxL := 4) (ret := (some .int)) (by decide) rfl ?_
  intro p e s m args below meth c s₁ B hml hv
  obtain ⟨rfl, hP, hK, hN⟩ := hv
  have hr := B.returns
  have hlocks := B.notSynchronized
  have S : CallFix p m c cX7_sixes 4 s ([.ref (ad 0), .int p1] : List Value).toArray vX7_sixes RX7 := ⟨B.exec, B.bytes, hml, findClass_of_methodNamed B.named, atoms_spec (ws := vX7_sixes) B.pre⟩
  have hq : ∀ w ∈ GW, w.before ([.ref (ad 0), .int p1] : List Value).toArray s = true := fun w h => S.2.2.2.2 w (List.mem_cons_of_mem _ h)
  have hA : ∀ k, k < 15 → AV ad 15 (ad k) := fun k hk => ⟨k, hk, rfl⟩
  have hW : WSt D cy ad kdV shM rfM 15 (AV ad 15) M s.heap s.heap [] := ⟨hP, va_S.rf⟩
  clear hP
  have hl := lv_entry ([.ref (ad 0), .int p1]) (n := 4) (Nat.le_of_ble_eq_true rfl)
  rw [lg_entry_eq]
  generalize (lg_sl ([.ref (ad 0), .int p1]) ++ List.replicate (4 - (lg_sl ([.ref (ad 0), .int p1])).length) Slot.unset).toArray = ls at hl ⊢
  have hl : lv_has ls 4 [(0, .ref (ad 0)), (1, .int p1)] := hl
  rw [fX7_sixes] at h
  refine lv_iconst (v := (1 : Int32)) S.1 S.2.1 dX7_sixes_0 (by decide) ?_
  refine lv_istore_n (lv' := [(2, .int (1 : Int32)), (0, .ref (ad 0)), (1, .int p1)]) S.1 S.2.1 dX7_sixes_1 rfl hl (by decide) rfl (fun ls hl => ?_)
  refine lv_iconst (v := (0 : Int32)) S.1 S.2.1 dX7_sixes_2 (by decide) ?_
  refine lv_istore_n (lv' := [(3, .int (0 : Int32)), (2, .int (1 : Int32)), (0, .ref (ad 0)), (1, .int p1)]) S.1 S.2.1 dX7_sixes_3 rfl hl (by decide) rfl (fun ls hl => ?_)
  have L4 : ∀ (n : Nat) (x2 : Int32) (x3 : Int32) (w1 : Int32) (w2 : Int32), fX7_sixes_L4 p1 n x2 x3 = some (w1, w2) → ∀ (H : Heap) (locs : List Loc) (ls : Array Slot), lv_has ls 4 [(0, .ref (ad 0)), (1, .int p1), (2, .int x2), (3, .int x3)] → WSt D cy ad kdV shM rfM 15 (AV ad 15) M s.heap H locs → (∀ (H : Heap) (locs : List Loc) (ls : Array Slot), lv_has ls 4 [(0, .ref (ad 0)), (1, .int p1), (2, .int w1), (3, .int w2)] → WSt D cy ad kdV shM rfM 15 (AV ad 15) M s.heap H locs → W p l e (headSpec vX7_sixes ({ frames := 0, cells := 0, slots := 0, locals := 0 } : Room)).room s m ([.ref (ad 0), .int p1] : List Value).toArray below meth c H locs 0 0 (MQ below (QcI r D cy ad kdV shM rfM 15 M) ([.ref (ad 0), .int p1] : List Value).toArray s 0 0 (AV ad 15)) (F0 m 20 ls [])) → W p l e (headSpec vX7_sixes ({ frames := 0, cells := 0, slots := 0, locals := 0 } : Room)).room s m ([.ref (ad 0), .int p1] : List Value).toArray below meth c H locs 0 0 (MQ below (QcI r D cy ad kdV shM rfM 15 M) ([.ref (ad 0), .int p1] : List Value).toArray s 0 0 (AV ad 15)) (F0 m 4 ls []) := by
    intro n
    induction n with
    | zero => intro x2 x3 w1 w2 h; cases h
    | succ n ih =>
      intro x2 x3 w1 w2 h H locs ls hl hW K
      rw [fX7_sixes_L4] at h
      refine lv_iload_n S.1 S.2.1 dX7_sixes_4 rfl (lv_at hl 3 rfl) ?_
      refine lv_iload_n S.1 S.2.1 dX7_sixes_5 rfl (lv_at hl 1 rfl) ?_
      refine lv_icmp_ge (tgt := 20) S.1 S.2.1 dX7_sixes_6 (by decide) (fun c3 => ?_) (fun c3 => ?_)
      · replace h := (if_pos c3).symm.trans h
        obtain ⟨rfl, rfl⟩ := s2 h
        exact K _ _ _ hl hW
      · replace h := (if_neg c3).symm.trans h
        refine lv_iload_n S.1 S.2.1 dX7_sixes_9 rfl (lv_at hl 2 rfl) ?_
        refine lv_bipush (v := (6 : Int32)) S.1 S.2.1 dX7_sixes_10 (by decide) ?_
        refine lv_imul S.1 S.2.1 dX7_sixes_12 ?_
        refine lv_istore_n (lv' := [(2, .int (x2 * (6 : Int32))), (0, .ref (ad 0)), (1, .int p1), (3, .int x3)]) S.1 S.2.1 dX7_sixes_13 rfl hl (by decide) rfl (fun ls hl => ?_)
        refine lv_iinc (v := x3 + (1 : Int32)) (lv' := [(3, .int (x3 + (1 : Int32))), (2, .int (x2 * (6 : Int32))), (0, .ref (ad 0)), (1, .int p1)]) S.1 S.2.1 dX7_sixes_14 hl (k := 3) rfl rfl (by decide) rfl (fun ls hl => ?_)
        refine lv_goto (tgt := 4) S.1 S.2.1 dX7_sixes_17 (by decide) ?_
        exact ih _ _ _ _ h _ _ _ (lv_sub hl [2, 3, 1, 0] rfl) hW K
  obtain ⟨w1, w2, u4, h⟩ := b2_some h
  refine L4 50000 _ _ _ _ u4 _ _ _ (lv_sub hl [2, 3, 1, 0] rfl) hW (fun H locs ls hl hW => ?_)
  clear L4
  refine lv_iload_n S.1 S.2.1 dX7_sixes_20 rfl (lv_at hl 2 rfl) ?_
  obtain rfl := s1 h
  exact fl_iret S.1 S.2.1 hr hlocks hW dX7_sixes_21
def fX7_doing_L17  : Nat → Int32 → Int32 → Int32 → Int32 → Mm → Option ((Int32 × Int32 × Int32 × Int32 × Mm) ⊕ (Int32 × Mm))
  | 0, _, _, _, _, _ => none
  | n + 1, x2, x3, x4, x5, Ml => if x5 < 0 then (some (.inl (x2, x3, x4, x5, Ml))) else (ix x5 6 (lt (wI Ml 13 (x5).toNatClampNeg (x2 - x2 / (6 : Int32) * (6 : Int32))) (fun (M8 : Mm) => if (5 : Int32) ≤ (x2 - x2 / (6 : Int32) * (6 : Int32)) then (fX7_doing_L17 n (x2 / (6 : Int32)) x3 x4 (x5 + (-1 : Int32)) M8) else (ix x5 6 (bP (fX7_has (M8.1 12 (x5).toNatClampNeg) (x2 - x2 / (6 : Int32) * (6 : Int32))) (fun (v13 : Int32) => if v13 = 0 then (some (.inr ((-9 : Int32), M8))) else (bP (fX7_has x4 (x2 - x2 / (6 : Int32) * (6 : Int32))) (fun (v16 : Int32) => if v16 = 0 then (fX7_doing_L17 n (x2 / (6 : Int32)) (x3 + (1 : Int32)) (x4 ||| ((1 : Int32) <<< ((x2 - x2 / (6 : Int32) * (6 : Int32)) &&& 31))) (x5 + (-1 : Int32)) M8) else (some (.inr ((-9 : Int32), M8)))))))))))
def fX7_doing (p1 : Int32) (M : Mm) : Option (Int32 × Mm) :=
  bS (fX7_doing_L17 50000 p1 (0 : Int32) (0 : Int32) ((M.1 2 ((1 : Int32)).toNatClampNeg) - (1 : Int32)) M) (fun o19 => (fun (w1 : Int32) (w2 : Int32) (w3 : Int32) (w4 : Int32) (M5 : Mm) => some (w2, M5)) o19.1 o19.2.1 o19.2.2.1 o19.2.2.2.1 o19.2.2.2.2) (fun o19 => some o19)
set_option maxHeartbeats 4000000 in
set_option maxRecDepth 100000 in
theorem kX7_doing (l : Launch) {D : va_G} {cy : Nat → ClassId} {ad : Nat → Nat} (hJ : Inj ad 15)  (p1 : Int32) (M : Mm) (r : Int32) (M' : Mm) (h : fX7_doing p1 M = some (r, M')) : Met l yX7_doing vX7_doing ({ frames := 1, cells := 0, slots := 0, locals := 21 } : Room) (PcF [.ref (ad 0), .int p1] D cy ad kdV shM rfM 15 M) (QcI r D cy ad kdV shM rfM 15 M') 0 0 (AV ad 15) := by
  refine Met.ofW (cc := cX7_doing) (maxL := 7) (ret := (some .int)) (by decide) rfl ?_
  intro p e s m args below meth c s₁ B hml hv
  obtain ⟨rfl, hP, hK, hN⟩ := hv
  have hr := B.returns
  have hlocks := B.notSynchronized
  have S : CallFix p m c cX7_doing 7 s ([.ref (ad 0), .int p1] : List Value).toArray vX7_doing RX7 := ⟨B.exec, B.bytes, hml, findClass_of_methodNamed B.named, atoms_spec (ws := vX7_doing) B.pre⟩
  have hq : ∀ w ∈ GW, w.before ([.ref (ad 0), .int p1] : List Value).toArray s = true := fun w h => S.2.2.2.2 w (List.mem_cons_of_mem _ h)
  have hA : ∀ k, k < 15 → AV ad 15 (ad k) := fun k hk => ⟨k, hk, rfl⟩
  have hW : WSt D cy ad kdV shM rfM 15 (AV ad 15) M s.heap s.heap [] := ⟨hP, va_S.rf⟩
  clear hP
  have iX7 : ∀ w ∈ wsX70, w ∈ vX7_doing := fun w h => List.mem_cons_of_mem _ (inX7 w h)
  have hl := lv_entry ([.ref (ad 0), .int p1]) (n := 7) (Nat.le_of_ble_eq_true rfl)
  rw [lg_entry_eq]
  generalize (lg_sl ([.ref (ad 0), .int p1]) ++ List.replicate (7 - (lg_sl ([.ref (ad 0), .int p1])).length) Slot.unset).toArray = ls at hl ⊢
  have hl : lv_has ls 7 [(0, .ref (ad 0)), (1, .int p1)] := hl
  rw [fX7_doing] at h
  refine lv_iload_n S.1 S.2.1 dX7_doing_0 rfl (lv_at hl 1 rfl) ?_
  refine lv_istore_n (lv' := [(2, .int p1), (0, .ref (ad 0)), (1, .int p1)]) S.1 S.2.1 dX7_doing_1 rfl hl (by decide) rfl (fun ls hl => ?_)
  refine lv_iconst (v := (0 : Int32)) S.1 S.2.1 dX7_doing_2 (by decide) ?_
  refine lv_istore_n (lv' := [(3, .int (0 : Int32)), (2, .int p1), (0, .ref (ad 0)), (1, .int p1)]) S.1 S.2.1 dX7_doing_3 rfl hl (by decide) rfl (fun ls hl => ?_)
  refine lv_iconst (v := (0 : Int32)) S.1 S.2.1 dX7_doing_4 (by decide) ?_
  refine lv_istore (lv' := [(4, .int (0 : Int32)), (3, .int (0 : Int32)), (2, .int p1), (0, .ref (ad 0)), (1, .int p1)]) S.1 S.2.1 dX7_doing_5 hl (by decide) rfl (fun ls hl => ?_)
  refine lv_aload_n S.1 S.2.1 dX7_doing_7 rfl (lv_at hl 3 rfl) ?_
  refine fl_get S hK iX7 rfl lM_0 sM_0 10 (by decide) (hq _ q_319) (fun _ h9 => h9) (fvs_R rfl rfl) hW dX7_doing_8 ?_
  refine lv_iconst (v := (1 : Int32)) S.1 S.2.1 dX7_doing_11 (by decide) ?_
  refine fl_iald S hK lM_2 sM_2 (vp_dec (i := (1 : Int32)) (n := 8) (by decide)) hW dX7_doing_12 ?_
  refine lv_iconst (v := (1 : Int32)) S.1 S.2.1 dX7_doing_13 (by decide) ?_
  refine lv_isub S.1 S.2.1 dX7_doing_14 ?_
  refine lv_istore (lv' := [(5, .int ((M.1 2 ((1 : Int32)).toNatClampNeg) - (1 : Int32))), (4, .int (0 : Int32)), (3, .int (0 : Int32)), (2, .int p1), (0, .ref (ad 0)), (1, .int p1)]) S.1 S.2.1 dX7_doing_15 hl (by decide) rfl (fun ls hl => ?_)
  have L17 : ∀ (n : Nat) (x2 : Int32) (x3 : Int32) (x4 : Int32) (x5 : Int32) (Ml : Mm) (o : (Int32 × Int32 × Int32 × Int32 × Mm) ⊕ (Int32 × Mm)), fX7_doing_L17 n x2 x3 x4 x5 Ml = some o → ∀ (H : Heap) (locs : List Loc) (ls : Array Slot), lv_has ls 7 [(0, .ref (ad 0)), (1, .int p1), (2, .int x2), (3, .int x3), (4, .int x4), (5, .int x5)] → WSt D cy ad kdV shM rfM 15 (AV ad 15) Ml s.heap H locs → (∀ (w1 : Int32) (w2 : Int32) (w3 : Int32) (w4 : Int32) (M5 : Mm), o = .inl (w1, w2, w3, w4, M5) → ∀ (H : Heap) (locs : List Loc) (ls : Array Slot), lv_has ls 7 [(0, .ref (ad 0)), (1, .int p1), (2, .int w1), (3, .int w2), (4, .int w3), (5, .int w4)] → WSt D cy ad kdV shM rfM 15 (AV ad 15) M5 s.heap H locs → W p l e (headSpec vX7_doing ({ frames := 1, cells := 0, slots := 0, locals := 21 } : Room)).room s m ([.ref (ad 0), .int p1] : List Value).toArray below meth c H locs 0 0 (MQ below (QcI r D cy ad kdV shM rfM 15 M') ([.ref (ad 0), .int p1] : List Value).toArray s 0 0 (AV ad 15)) (F0 m 94 ls [])) → (∀ (rr : Int32 × Mm), o = .inr rr → ∀ (H : Heap) (locs : List Loc) (ls : Array Slot) (pc : Nat), WSt D cy ad kdV shM rfM 15 (AV ad 15) rr.2 s.heap H locs → decode cX7_doing pc = .ok (.ireturn, 1) → W p l e (headSpec vX7_doing ({ frames := 1, cells := 0, slots := 0, locals := 21 } : Room)).room s m ([.ref (ad 0), .int p1] : List Value).toArray below meth c H locs 0 0 (MQ below (QcI r D cy ad kdV shM rfM 15 M') ([.ref (ad 0), .int p1] : List Value).toArray s 0 0 (AV ad 15)) (F0 m pc ls [.int rr.1])) → W p l e (headSpec vX7_doing ({ frames := 1, cells := 0, slots := 0, locals := 21 } : Room)).room s m ([.ref (ad 0), .int p1] : List Value).toArray below meth c H locs 0 0 (MQ below (QcI r D cy ad kdV shM rfM 15 M') ([.ref (ad 0), .int p1] : List Value).toArray s 0 0 (AV ad 15)) (F0 m 17 ls []) := by
    intro n
    induction n with
    | zero => intro x2 x3 x4 x5 Ml o h; cases h
    | succ n ih =>
      intro x2 x3 x4 x5 Ml o h H locs ls hl hW K K2
      rw [fX7_doing_L17] at h
      refine lv_iload S.1 S.2.1 dX7_doing_17 (lv_at hl 5 rfl) ?_
      refine lv_if_lt (tgt := 94) S.1 S.2.1 dX7_doing_19 (by decide) (fun c6 => ?_) (fun c6 => ?_)
      · replace h := (if_pos c6).symm.trans h
        exact K _ _ _ _ _ (Option.some.inj h).symm _ _ _ hl hW
      · replace h := (if_neg c6).symm.trans h
        refine lv_iload_n S.1 S.2.1 dX7_doing_22 rfl (lv_at hl 2 rfl) ?_
        refine lv_bipush (v := (6 : Int32)) S.1 S.2.1 dX7_doing_23 (by decide) ?_
        refine lv_irem S.1 S.2.1 dX7_doing_25 (by decide) ?_
        refine lv_istore (lv' := [(6, .int (x2 - x2 / (6 : Int32) * (6 : Int32))), (0, .ref (ad 0)), (1, .int p1), (2, .int x2), (3, .int x3), (4, .int x4), (5, .int x5)]) S.1 S.2.1 dX7_doing_26 hl (by decide) rfl (fun ls hl => ?_)
        refine lv_iload_n S.1 S.2.1 dX7_doing_28 rfl (lv_at hl 3 rfl) ?_
        refine lv_bipush (v := (6 : Int32)) S.1 S.2.1 dX7_doing_29 (by decide) ?_
        refine lv_idiv S.1 S.2.1 dX7_doing_31 (by decide) ?_
        refine lv_istore_n (lv' := [(2, .int (x2 / (6 : Int32))), (6, .int (x2 - x2 / (6 : Int32) * (6 : Int32))), (0, .ref (ad 0)), (1, .int p1), (3, .int x3), (4, .int x4), (5, .int x5)]) S.1 S.2.1 dX7_doing_32 rfl hl (by decide) rfl (fun ls hl => ?_)
        refine lv_aload_n S.1 S.2.1 dX7_doing_33 rfl (lv_at hl 2 rfl) ?_
        refine fl_get S hK iX7 rfl lM_0 sM_0 23 (by decide) (hq _ q_398) (fun _ h9 => h9) (fvs_R rfl rfl) hW dX7_doing_34 ?_
        refine lv_iload S.1 S.2.1 dX7_doing_37 (lv_at hl 6 rfl) ?_
        refine lv_iload S.1 S.2.1 dX7_doing_39 (lv_at hl 1 rfl) ?_
        obtain ⟨g7, h⟩ := ix_some h
        refine fl_iast S hK hJ hA lM_13 sM_13 g7 hW dX7_doing_41 (fun H locs hW => ?_)
        obtain ⟨M8, e9, h⟩ := lt_some h
        rw [e9] at hW
        clear e9
        refine lv_iload S.1 S.2.1 dX7_doing_42 (lv_at hl 1 rfl) ?_
        refine lv_iconst (v := (5 : Int32)) S.1 S.2.1 dX7_doing_44 (by decide) ?_
        refine lv_icmp_ge (tgt := 88) S.1 S.2.1 dX7_doing_45 (by decide) (fun c10 => ?_) (fun c10 => ?_)
        · replace h := (if_pos c10).symm.trans h
          refine lv_iinc (v := x5 + (-1 : Int32)) (lv' := [(5, .int (x5 + (-1 : Int32))), (2, .int (x2 / (6 : Int32))), (6, .int (x2 - x2 / (6 : Int32) * (6 : Int32))), (0, .ref (ad 0)), (1, .int p1), (3, .int x3), (4, .int x4)]) S.1 S.2.1 dX7_doing_88 hl (k := 6) rfl rfl (by decide) rfl (fun ls hl => ?_)
          refine lv_goto (tgt := 17) S.1 S.2.1 dX7_doing_91 (by decide) ?_
          exact ih _ _ _ _ _ _ h _ _ _ (lv_sub hl [3, 4, 1, 5, 6, 0] rfl) hW K K2
        · replace h := (if_neg c10).symm.trans h
          refine lv_aload_n S.1 S.2.1 dX7_doing_48 rfl (lv_at hl 2 rfl) ?_
          refine fl_get S hK iX7 rfl lM_0 sM_0 22 (by decide) (hq _ q_397) (fun _ h9 => h9) (fvs_R rfl rfl) hW dX7_doing_49 ?_
          refine lv_iload S.1 S.2.1 dX7_doing_52 (lv_at hl 6 rfl) ?_
          obtain ⟨g11, h⟩ := ix_some h
          refine fl_iald S hK lM_12 sM_12 g11 hW dX7_doing_54 ?_
          refine lv_iload S.1 S.2.1 dX7_doing_55 (lv_at hl 1 rfl) ?_
          obtain ⟨v13, u12, h⟩ := bP_some h
          refine fl_doneP (fl_runS S (kX7_has l (M8.1 12 (x5).toNatClampNeg) (x2 - x2 / (6 : Int32) * (6 : Int32)) v13 u12) (va_cwS 2 S.2.2.2.2 (gS q_348 q_349 q_291 q_347) rfl rfl rfl (by decide +kernel) ⟨Nat.le_of_ble_eq_true rfl, Nat.le_of_ble_eq_true rfl⟩) rfl hl.1 rfl (Nat.le_of_ble_eq_true rfl) dX7_doing_57 ⟨Nat.zero_le _, Nat.zero_le _⟩) hW (fun H locs hW => ?_)
          refine lv_if_eq (tgt := 73) S.1 S.2.1 dX7_doing_60 (by decide) (fun c14 => ?_) (fun c14 => ?_)
          · replace h := (if_pos c14).symm.trans h
            refine lv_bipush (v := (-9 : Int32)) S.1 S.2.1 dX7_doing_73 (by decide) ?_
            exact K2 _ (Option.some.inj h).symm _ _ _ _ hW dX7_doing_75
          · replace h := (if_neg c14).symm.trans h
            refine lv_iload S.1 S.2.1 dX7_doing_63 (lv_at hl 5 rfl) ?_
            refine lv_iload S.1 S.2.1 dX7_doing_65 (lv_at hl 1 rfl) ?_
            obtain ⟨v16, u15, h⟩ := bP_some h
            refine fl_doneP (fl_runS S (kX7_has l x4 (x2 - x2 / (6 : Int32) * (6 : Int32)) v16 u15) (va_cwS 2 S.2.2.2.2 (gS q_348 q_349 q_291 q_347) rfl rfl rfl (by decide +kernel) ⟨Nat.le_of_ble_eq_true rfl, Nat.le_of_ble_eq_true rfl⟩) rfl hl.1 rfl (Nat.le_of_ble_eq_true rfl) dX7_doing_67 ⟨Nat.zero_le _, Nat.zero_le _⟩) hW (fun H locs hW => ?_)
            refine lv_if_eq (tgt := 76) S.1 S.2.1 dX7_doing_70 (by decide) (fun c17 => ?_) (fun c17 => ?_)
            · replace h := (if_pos c17).symm.trans h
              refine lv_iload S.1 S.2.1 dX7_doing_76 (lv_at hl 5 rfl) ?_
              refine lv_iconst (v := (1 : Int32)) S.1 S.2.1 dX7_doing_78 (by decide) ?_
              refine lv_iload S.1 S.2.1 dX7_doing_79 (lv_at hl 1 rfl) ?_
              refine lv_ishl S.1 S.2.1 dX7_doing_81 ?_
              refine lv_ior S.1 S.2.1 dX7_doing_82 ?_
              refine lv_istore (lv' := [(4, .int (x4 ||| ((1 : Int32) <<< ((x2 - x2 / (6 : Int32) * (6 : Int32)) &&& 31)))), (2, .int (x2 / (6 : Int32))), (6, .int (x2 - x2 / (6 : Int32) * (6 : Int32))), (0, .ref (ad 0)), (1, .int p1), (3, .int x3), (5, .int x5)]) S.1 S.2.1 dX7_doing_83 hl (by decide) rfl (fun ls hl => ?_)
              refine lv_iinc (v := x3 + (1 : Int32)) (lv' := [(3, .int (x3 + (1 : Int32))), (4, .int (x4 ||| ((1 : Int32) <<< ((x2 - x2 / (6 : Int32) * (6 : Int32)) &&& 31)))), (2, .int (x2 / (6 : Int32))), (6, .int (x2 - x2 / (6 : Int32) * (6 : Int32))), (0, .ref (ad 0)), (1, .int p1), (5, .int x5)]) S.1 S.2.1 dX7_doing_85 hl (k := 5) rfl rfl (by decide) rfl (fun ls hl => ?_)
              refine lv_iinc (v := x5 + (-1 : Int32)) (lv' := [(5, .int (x5 + (-1 : Int32))), (3, .int (x3 + (1 : Int32))), (4, .int (x4 ||| ((1 : Int32) <<< ((x2 - x2 / (6 : Int32) * (6 : Int32)) &&& 31)))), (2, .int (x2 / (6 : Int32))), (6, .int (x2 - x2 / (6 : Int32) * (6 : Int32))), (0, .ref (ad 0)), (1, .int p1)]) S.1 S.2.1 dX7_doing_88 hl (k := 6) rfl rfl (by decide) rfl (fun ls hl => ?_)
              refine lv_goto (tgt := 17) S.1 S.2.1 dX7_doing_91 (by decide) ?_
              exact ih _ _ _ _ _ _ h _ _ _ (lv_sub hl [5, 6, 3, 1, 2, 0] rfl) hW K K2
            · replace h := (if_neg c17).symm.trans h
              refine lv_bipush (v := (-9 : Int32)) S.1 S.2.1 dX7_doing_73 (by decide) ?_
              exact K2 _ (Option.some.inj h).symm _ _ _ _ hW dX7_doing_75
  rcases bS_some h with ⟨o19, u18, h⟩ | ⟨o19, u18, h⟩
  · obtain ⟨w1, w2, w3, w4, M5⟩ := o19
    refine L17 50000 _ _ _ _ _ _ u18 _ _ _ (lv_sub hl [4, 5, 3, 2, 1, 0] rfl) hW (fun w1z w2z w3z w4z M5z e H locs ls hl hW => ?_) (fun rr e => by cases e)
    cases e
    refine lv_iload_n S.1 S.2.1 dX7_doing_94 rfl (lv_at hl 3 rfl) ?_
    obtain ⟨rfl, rfl⟩ := s2 h
    exact fl_iret S.1 S.2.1 hr hlocks hW dX7_doing_95
  · refine L17 50000 _ _ _ _ _ _ u18 _ _ _ (lv_sub hl [4, 5, 3, 2, 1, 0] rfl) hW (fun _ _ _ _ _ e => by cases e) (fun rr e H locs ls pc hW hd => ?_)
    cases e
    obtain rfl := s1 h
    exact fl_iret S.1 S.2.1 hr hlocks hW hd
def fX7_filled_L39  : Nat → Int32 → Mm → Option (Int32 × Mm)
  | 0, _, _ => none
  | n + 1, x5_39, Ml_39 => if (6 : Int32) ≤ x5_39 then (some (x5_39, Ml_39)) else (ix x5_39 6 (ix x5_39 6 (lt (wI Ml_39 14 (x5_39).toNatClampNeg (Ml_39.1 13 (x5_39).toNatClampNeg)) (fun (M16 : Mm) => fX7_filled_L39 n (x5_39 + (1 : Int32)) M16))))
def fX7_filled_L15 (v2 : Int32) : Nat → Int32 → Int32 → Mm → Option (Int32 × Int32 × Mm)
  | 0, _, _, _ => none
  | n + 1, x1, x3, Ml => if v2 ≤ x3 then (some (x1, x3, Ml)) else (b2 (fX7_doing x3 Ml) (fun (v8 : Int32) (M9 : Mm) => if v8 ≤ x1 then (fX7_filled_L15 v2 n x1 (x3 + (1 : Int32)) M9) else (b2 (fX7_filled_L39 50000 (0 : Int32) M9) (fun (w11 : Int32) (M12 : Mm) => fX7_filled_L15 v2 n v8 (x3 + (1 : Int32)) M12))))
def fX7_filled (M : Mm) : Option (Int32 × Mm) :=
  bP (fX7_sixes (M.1 2 ((1 : Int32)).toNatClampNeg) M) (fun (v2 : Int32) => b3 (fX7_filled_L15 v2 50000 (-1 : Int32) (0 : Int32) M) (fun (w3 : Int32) (w4 : Int32) (M5 : Mm) => some (w3, M5)))
set_option maxHeartbeats 4000000 in
set_option maxRecDepth 100000 in
theorem kX7_filled (l : Launch) {D : va_G} {cy : Nat → ClassId} {ad : Nat → Nat} (hJ : Inj ad 15)   (M : Mm) (r : Int32) (M' : Mm) (h : fX7_filled M = some (r, M')) : Met l yX7_filled vX7_filled ({ frames := 2, cells := 0, slots := 0, locals := 47 } : Room) (PcF [.ref (ad 0)] D cy ad kdV shM rfM 15 M) (QcI r D cy ad kdV shM rfM 15 M') 0 0 (AV ad 15) := by
  refine Met.ofW (cc := cX7_filled) (maxL := 6) (ret := (some .int)) (by decide) rfl ?_
  intro p e s m args below meth c s₁ B hml hv
  obtain ⟨rfl, hP, hK, hN⟩ := hv
  have hr := B.returns
  have hlocks := B.notSynchronized
  have S : CallFix p m c cX7_filled 6 s ([.ref (ad 0)] : List Value).toArray vX7_filled RX7 := ⟨B.exec, B.bytes, hml, findClass_of_methodNamed B.named, atoms_spec (ws := vX7_filled) B.pre⟩
  have hq : ∀ w ∈ GW, w.before ([.ref (ad 0)] : List Value).toArray s = true := fun w h => S.2.2.2.2 w (List.mem_cons_of_mem _ h)
  have hA : ∀ k, k < 15 → AV ad 15 (ad k) := fun k hk => ⟨k, hk, rfl⟩
  have hW : WSt D cy ad kdV shM rfM 15 (AV ad 15) M s.heap s.heap [] := ⟨hP, va_S.rf⟩
  clear hP
  have iX7 : ∀ w ∈ wsX70, w ∈ vX7_filled := fun w h => List.mem_cons_of_mem _ (inX7 w h)
  have hl := lv_entry ([.ref (ad 0)]) (n := 6) (Nat.le_of_ble_eq_true rfl)
  rw [lg_entry_eq]
  generalize (lg_sl ([.ref (ad 0)]) ++ List.replicate (6 - (lg_sl ([.ref (ad 0)])).length) Slot.unset).toArray = ls at hl ⊢
  have hl : lv_has ls 6 [(0, .ref (ad 0))] := hl
  rw [fX7_filled] at h
  refine lv_iconst (v := (-1 : Int32)) S.1 S.2.1 dX7_filled_0 (by decide) ?_
  refine lv_istore_n (lv' := [(1, .int (-1 : Int32)), (0, .ref (ad 0))]) S.1 S.2.1 dX7_filled_1 rfl hl (by decide) rfl (fun ls hl => ?_)
  refine lv_aload_n S.1 S.2.1 dX7_filled_2 rfl (lv_at hl 1 rfl) ?_
  refine lv_aload_n S.1 S.2.1 dX7_filled_3 rfl (lv_at hl 1 rfl) ?_
  refine fl_get S hK iX7 rfl lM_0 sM_0 10 (by decide) (hq _ q_319) (fun _ h9 => h9) (fvs_R rfl rfl) hW dX7_filled_4 ?_
  refine lv_iconst (v := (1 : Int32)) S.1 S.2.1 dX7_filled_7 (by decide) ?_
  refine fl_iald S hK lM_2 sM_2 (vp_dec (i := (1 : Int32)) (n := 8) (by decide)) hW dX7_filled_8 ?_
  obtain ⟨v2, u1, h⟩ := bP_some h
  refine fl_doneI (fl_runV S hK hN (kX7_sixes l hJ (M.1 2 ((1 : Int32)).toNatClampNeg) M v2 u1) (cwV 1 S.2.2.2.2 (gV q_400 q_401 q_402 q_291 q_399) rfl rfl rfl (by decide +kernel) ⟨Nat.le_of_ble_eq_true rfl, Nat.le_of_ble_eq_true rfl⟩) (ci := 7) rfl lM_0 sM_0 rfl hl.1 rfl (Nat.le_of_ble_eq_true rfl) dX7_filled_9 ⟨Nat.zero_le _, Nat.zero_le _⟩ hW) hA hW.2 (fun H locs hW => ?_)
  refine lv_istore_n (lv' := [(2, .int v2), (1, .int (-1 : Int32)), (0, .ref (ad 0))]) S.1 S.2.1 dX7_filled_12 rfl hl (by decide) rfl (fun ls hl => ?_)
  refine lv_iconst (v := (0 : Int32)) S.1 S.2.1 dX7_filled_13 (by decide) ?_
  refine lv_istore_n (lv' := [(3, .int (0 : Int32)), (2, .int v2), (1, .int (-1 : Int32)), (0, .ref (ad 0))]) S.1 S.2.1 dX7_filled_14 rfl hl (by decide) rfl (fun ls hl => ?_)
  have L15 : ∀ (n : Nat) (x1 : Int32) (x3 : Int32) (Ml : Mm) (w3 : Int32) (w4 : Int32) (M5 : Mm), fX7_filled_L15 v2 n x1 x3 Ml = some (w3, w4, M5) → ∀ (H : Heap) (locs : List Loc) (ls : Array Slot), lv_has ls 6 [(0, .ref (ad 0)), (1, .int x1), (2, .int v2), (3, .int x3)] → WSt D cy ad kdV shM rfM 15 (AV ad 15) Ml s.heap H locs → (∀ (H : Heap) (locs : List Loc) (ls : Array Slot), lv_has ls 6 [(0, .ref (ad 0)), (1, .int w3), (2, .int v2), (3, .int w4)] → WSt D cy ad kdV shM rfM 15 (AV ad 15) M5 s.heap H locs → W p l e (headSpec vX7_filled ({ frames := 2, cells := 0, slots := 0, locals := 47 } : Room)).room s m ([.ref (ad 0)] : List Value).toArray below meth c H locs 0 0 (MQ below (QcI r D cy ad kdV shM rfM 15 M') ([.ref (ad 0)] : List Value).toArray s 0 0 (AV ad 15)) (F0 m 72 ls [])) → W p l e (headSpec vX7_filled ({ frames := 2, cells := 0, slots := 0, locals := 47 } : Room)).room s m ([.ref (ad 0)] : List Value).toArray below meth c H locs 0 0 (MQ below (QcI r D cy ad kdV shM rfM 15 M') ([.ref (ad 0)] : List Value).toArray s 0 0 (AV ad 15)) (F0 m 15 ls []) := by
    intro n
    induction n with
    | zero => intro x1 x3 Ml w3 w4 M5 h; cases h
    | succ n ih =>
      intro x1 x3 Ml w3 w4 M5 h H locs ls hl hW K
      rw [fX7_filled_L15] at h
      refine lv_iload_n S.1 S.2.1 dX7_filled_15 rfl (lv_at hl 3 rfl) ?_
      refine lv_iload_n S.1 S.2.1 dX7_filled_16 rfl (lv_at hl 2 rfl) ?_
      refine lv_icmp_ge (tgt := 72) S.1 S.2.1 dX7_filled_17 (by decide) (fun c6 => ?_) (fun c6 => ?_)
      · replace h := (if_pos c6).symm.trans h
        obtain ⟨rfl, rfl, rfl⟩ := s3 h
        exact K _ _ _ hl hW
      · replace h := (if_neg c6).symm.trans h
        refine lv_aload_n S.1 S.2.1 dX7_filled_20 rfl (lv_at hl 0 rfl) ?_
        refine lv_iload_n S.1 S.2.1 dX7_filled_21 rfl (lv_at hl 3 rfl) ?_
        obtain ⟨v8, M9, u7, h⟩ := b2_some h
        refine fl_doneI (fl_runV S hK hN (kX7_doing l hJ x3 Ml v8 M9 u7) (cwV 1 S.2.2.2.2 (gV q_404 q_405 q_406 q_291 q_403) rfl rfl rfl (by decide +kernel) ⟨Nat.le_of_ble_eq_true rfl, Nat.le_of_ble_eq_true rfl⟩) (ci := 7) rfl lM_0 sM_0 rfl hl.1 rfl (Nat.le_of_ble_eq_true rfl) dX7_filled_22 ⟨Nat.zero_le _, Nat.zero_le _⟩ hW) hA hW.2 (fun H locs hW => ?_)
        refine lv_istore (lv' := [(4, .int v8), (0, .ref (ad 0)), (1, .int x1), (2, .int v2), (3, .int x3)]) S.1 S.2.1 dX7_filled_25 hl (by decide) rfl (fun ls hl => ?_)
        refine lv_iload S.1 S.2.1 dX7_filled_27 (lv_at hl 0 rfl) ?_
        refine lv_iload_n S.1 S.2.1 dX7_filled_29 rfl (lv_at hl 2 rfl) ?_
        refine lv_icmp_le (tgt := 66) S.1 S.2.1 dX7_filled_30 (by decide) (fun c10 => ?_) (fun c10 => ?_)
        · replace h := (if_pos c10).symm.trans h
          refine lv_iinc (v := x3 + (1 : Int32)) (lv' := [(3, .int (x3 + (1 : Int32))), (4, .int v8), (0, .ref (ad 0)), (1, .int x1), (2, .int v2)]) S.1 S.2.1 dX7_filled_66 hl (k := 4) rfl rfl (by decide) rfl (fun ls hl => ?_)
          refine lv_goto (tgt := 15) S.1 S.2.1 dX7_filled_69 (by decide) ?_
          exact ih _ _ _ _ _ _ h _ _ _ (lv_sub hl [2, 3, 4, 0] rfl) hW K
        · replace h := (if_neg c10).symm.trans h
          refine lv_iload S.1 S.2.1 dX7_filled_33 (lv_at hl 0 rfl) ?_
          refine lv_istore_n (lv' := [(1, .int v8), (4, .int v8), (0, .ref (ad 0)), (2, .int v2), (3, .int x3)]) S.1 S.2.1 dX7_filled_35 rfl hl (by decide) rfl (fun ls hl => ?_)
          refine lv_iconst (v := (0 : Int32)) S.1 S.2.1 dX7_filled_36 (by decide) ?_
          refine lv_istore (lv' := [(5, .int (0 : Int32)), (1, .int v8), (4, .int v8), (0, .ref (ad 0)), (2, .int v2), (3, .int x3)]) S.1 S.2.1 dX7_filled_37 hl (by decide) rfl (fun ls hl => ?_)
          have L39 : ∀ (n : Nat) (x5_39 : Int32) (Ml_39 : Mm) (w11 : Int32) (M12 : Mm), fX7_filled_L39 n x5_39 Ml_39 = some (w11, M12) → ∀ (H : Heap) (locs : List Loc) (ls : Array Slot), lv_has ls 6 [(0, .ref (ad 0)), (1, .int v8), (2, .int v2), (3, .int x3), (4, .int v8), (5, .int x5_39)] → WSt D cy ad kdV shM rfM 15 (AV ad 15) Ml_39 s.heap H locs → (∀ (H : Heap) (locs : List Loc) (ls : Array Slot), lv_has ls 6 [(0, .ref (ad 0)), (1, .int v8), (2, .int v2), (3, .int x3), (4, .int v8), (5, .int w11)] → WSt D cy ad kdV shM rfM 15 (AV ad 15) M12 s.heap H locs → W p l e (headSpec vX7_filled ({ frames := 2, cells := 0, slots := 0, locals := 47 } : Room)).room s m ([.ref (ad 0)] : List Value).toArray below meth c H locs 0 0 (MQ below (QcI r D cy ad kdV shM rfM 15 M') ([.ref (ad 0)] : List Value).toArray s 0 0 (AV ad 15)) (F0 m 66 ls [])) → W p l e (headSpec vX7_filled ({ frames := 2, cells := 0, slots := 0, locals := 47 } : Room)).room s m ([.ref (ad 0)] : List Value).toArray below meth c H locs 0 0 (MQ below (QcI r D cy ad kdV shM rfM 15 M') ([.ref (ad 0)] : List Value).toArray s 0 0 (AV ad 15)) (F0 m 39 ls []) := by
            intro n
            induction n with
            | zero => intro x5_39 Ml_39 w11 M12 h; cases h
            | succ n ih =>
              intro x5_39 Ml_39 w11 M12 h H locs ls hl hW K
              rw [fX7_filled_L39] at h
              refine lv_iload S.1 S.2.1 dX7_filled_39 (lv_at hl 5 rfl) ?_
              refine lv_bipush (v := (6 : Int32)) S.1 S.2.1 dX7_filled_41 (by decide) ?_
              refine lv_icmp_ge (tgt := 66) S.1 S.2.1 dX7_filled_43 (by decide) (fun c13 => ?_) (fun c13 => ?_)
              · replace h := (if_pos c13).symm.trans h
                obtain ⟨rfl, rfl⟩ := s2 h
                exact K _ _ _ hl hW
              · replace h := (if_neg c13).symm.trans h
                refine lv_aload_n S.1 S.2.1 dX7_filled_46 rfl (lv_at hl 0 rfl) ?_
                refine fl_get S hK iX7 rfl lM_0 sM_0 24 (by decide) (hq _ q_407) (fun _ h9 => h9) (fvs_R rfl rfl) hW dX7_filled_47 ?_
                refine lv_iload S.1 S.2.1 dX7_filled_50 (lv_at hl 5 rfl) ?_
                refine lv_aload_n S.1 S.2.1 dX7_filled_52 rfl (lv_at hl 0 rfl) ?_
                refine fl_get S hK iX7 rfl lM_0 sM_0 23 (by decide) (hq _ q_398) (fun _ h9 => h9) (fvs_R rfl rfl) hW dX7_filled_53 ?_
                refine lv_iload S.1 S.2.1 dX7_filled_56 (lv_at hl 5 rfl) ?_
                obtain ⟨g14, h⟩ := ix_some h
                refine fl_iald S hK lM_13 sM_13 g14 hW dX7_filled_58 ?_
                obtain ⟨g15, h⟩ := ix_some h
                refine fl_iast S hK hJ hA lM_14 sM_14 g15 hW dX7_filled_59 (fun H locs hW => ?_)
                obtain ⟨M16, e17, h⟩ := lt_some h
                rw [e17] at hW
                clear e17
                refine lv_iinc (v := x5_39 + (1 : Int32)) (lv' := [(5, .int (x5_39 + (1 : Int32))), (0, .ref (ad 0)), (1, .int v8), (2, .int v2), (3, .int x3), (4, .int v8)]) S.1 S.2.1 dX7_filled_60 hl (k := 5) rfl rfl (by decide) rfl (fun ls hl => ?_)
                refine lv_goto (tgt := 39) S.1 S.2.1 dX7_filled_63 (by decide) ?_
                exact ih _ _ _ _ h _ _ _ (lv_sub hl [1, 2, 3, 4, 5, 0] rfl) hW K
          obtain ⟨w11, M12, u18, h⟩ := b2_some h
          refine L39 50000 _ _ _ _ u18 _ _ _ (lv_sub hl [3, 1, 4, 5, 2, 0] rfl) hW (fun H locs ls hl hW => ?_)
          clear L39
          refine lv_iinc (v := x3 + (1 : Int32)) (lv' := [(3, .int (x3 + (1 : Int32))), (0, .ref (ad 0)), (1, .int v8), (2, .int v2), (4, .int v8), (5, .int w11)]) S.1 S.2.1 dX7_filled_66 hl (k := 3) rfl rfl (by decide) rfl (fun ls hl => ?_)
          refine lv_goto (tgt := 15) S.1 S.2.1 dX7_filled_69 (by decide) ?_
          exact ih _ _ _ _ _ _ h _ _ _ (lv_sub hl [1, 2, 3, 0] rfl) hW K
  obtain ⟨w3, w4, M5, u19, h⟩ := b3_some h
  refine L15 50000 _ _ _ _ _ _ u19 _ _ _ (lv_sub hl [3, 2, 1, 0] rfl) hW (fun H locs ls hl hW => ?_)
  clear L15
  refine lv_iload_n S.1 S.2.1 dX7_filled_72 rfl (lv_at hl 1 rfl) ?_
  obtain ⟨rfl, rfl⟩ := s2 h
  exact fl_iret S.1 S.2.1 hr hlocks hW dX7_filled_73
def fX7_now (p1 : Int32) (M : Mm) : Option (Int32 × Mm) :=
  lt (wI M 0 0 (0 : Int32)) (fun (M1 : Mm) => bP (fX7_in p1 (0 : Int32) (4 : Int32)) (fun (v4 : Int32) => if v4 = 0 then (some ((-1 : Int32), M1)) else (if (3 : Int32) ≤ p1 then (bP (fX7_asNow M1) (fun (M8 : Mm) => if p1 = (3 : Int32) then (b2 (fX7_filled M8) (fun (v11 : Int32) (M12 : Mm) => some (v11, M12))) else (some (M8.1 0 18, M8)))) else (if p1 = 0 then (some (M1.1 6 ((0 : Int32)).toNatClampNeg, M1)) else (if p1 = (1 : Int32) then (some (M1.1 6 ((14 : Int32)).toNatClampNeg, M1)) else (some (M1.1 6 ((13 : Int32)).toNatClampNeg, M1)))))))
set_option maxHeartbeats 4000000 in
set_option maxRecDepth 100000 in
theorem kX7_now (l : Launch) {D : va_G} {cy : Nat → ClassId} {ad : Nat → Nat} (hJ : Inj ad 15)  (p1 : Int32) (M : Mm) (r : Int32) (M' : Mm) (h : fX7_now p1 M = some (r, M')) : Met l yX7_now vX7_now ({ frames := 4, cells := 0, slots := 0, locals := 87 } : Room) (PcF [.ref (ad 0), .int p1] D cy ad kdV shM rfM 15 M) (QcI r D cy ad kdV shM rfM 15 M') 0 0 (AV ad 15) := by
  refine Met.ofW (cc := cX7_now) (maxL := 2) (ret := (some .int)) (by decide) rfl ?_
  intro p e s m args below meth c s₁ B hml hv
  obtain ⟨rfl, hP, hK, hN⟩ := hv
  have hr := B.returns
  have hlocks := B.notSynchronized
  have S : CallFix p m c cX7_now 2 s ([.ref (ad 0), .int p1] : List Value).toArray vX7_now RX7 := ⟨B.exec, B.bytes, hml, findClass_of_methodNamed B.named, atoms_spec (ws := vX7_now) B.pre⟩
  have hq : ∀ w ∈ GW, w.before ([.ref (ad 0), .int p1] : List Value).toArray s = true := fun w h => S.2.2.2.2 w (List.mem_cons_of_mem _ h)
  have hA : ∀ k, k < 15 → AV ad 15 (ad k) := fun k hk => ⟨k, hk, rfl⟩
  have hW : WSt D cy ad kdV shM rfM 15 (AV ad 15) M s.heap s.heap [] := ⟨hP, va_S.rf⟩
  clear hP
  have iX7 : ∀ w ∈ wsX70, w ∈ vX7_now := fun w h => List.mem_cons_of_mem _ (inX7 w h)
  have hl := lv_entry ([.ref (ad 0), .int p1]) (n := 2) (Nat.le_of_ble_eq_true rfl)
  rw [lg_entry_eq]
  generalize (lg_sl ([.ref (ad 0), .int p1]) ++ List.replicate (2 - (lg_sl ([.ref (ad 0), .int p1])).length) Slot.unset).toArray = ls at hl ⊢
  have hl : lv_has ls 2 [(0, .ref (ad 0)), (1, .int p1)] := hl
  rw [fX7_now] at h
  refine lv_aload_n S.1 S.2.1 dX7_now_0 rfl (lv_at hl 0 rfl) ?_
  refine lv_iconst (v := (0 : Int32)) S.1 S.2.1 dX7_now_1 (by decide) ?_
  refine fl_put S hK hJ hA tyX7 tyX7_ok nmX7 iX7 rfl lM_0 sM_0 0 (by decide) (hq _ q_287) (fun _ h9 => h9) rfl (ty := .int) rfl rfl rfl (wI M 0 0 (0 : Int32)) (by decide) (fvs_setI _ _ _ _ _ _ _ rfl) (fun j _ hj => cof_wI_ne hj) hW dX7_now_2 (fun H locs hW => ?_)
  obtain ⟨M1, e2, h⟩ := lt_some h
  rw [e2] at hW
  clear e2
  refine lv_iload_n S.1 S.2.1 dX7_now_5 rfl (lv_at hl 1 rfl) ?_
  refine lv_iconst (v := (0 : Int32)) S.1 S.2.1 dX7_now_6 (by decide) ?_
  refine lv_iconst (v := (4 : Int32)) S.1 S.2.1 dX7_now_7 (by decide) ?_
  obtain ⟨v4, u3, h⟩ := bP_some h
  refine fl_doneP (fl_runS S (kX7_in l p1 (0 : Int32) (4 : Int32) v4 u3) (va_cwS 3 S.2.2.2.2 (gS q_289 q_290 q_291 q_288) rfl rfl rfl (by decide +kernel) ⟨Nat.le_of_ble_eq_true rfl, Nat.le_of_ble_eq_true rfl⟩) rfl hl.1 rfl (Nat.le_of_ble_eq_true rfl) dX7_now_8 ⟨Nat.zero_le _, Nat.zero_le _⟩) hW (fun H locs hW => ?_)
  refine lv_if_ne (tgt := 16) S.1 S.2.1 dX7_now_11 (by decide) (fun c5 => ?_) (fun c5 => ?_)
  · replace h := (if_neg c5).symm.trans h
    refine lv_iload_n S.1 S.2.1 dX7_now_16 rfl (lv_at hl 1 rfl) ?_
    refine lv_iconst (v := (3 : Int32)) S.1 S.2.1 dX7_now_17 (by decide) ?_
    refine lv_icmp_ge (tgt := 57) S.1 S.2.1 dX7_now_18 (by decide) (fun c6 => ?_) (fun c6 => ?_)
    · replace h := (if_pos c6).symm.trans h
      refine lv_aload_n S.1 S.2.1 dX7_now_57 rfl (lv_at hl 0 rfl) ?_
      obtain ⟨M8, u7, h⟩ := bP_some h
      refine fl_doneV (fl_runV S hK hN (kX7_asNow l hJ M1 M8 u7) (cwV 0 S.2.2.2.2 (gV q_409 q_410 q_411 q_291 q_408) rfl rfl rfl (by decide +kernel) ⟨Nat.le_of_ble_eq_true rfl, Nat.le_of_ble_eq_true rfl⟩) (ci := 7) rfl lM_0 sM_0 rfl hl.1 rfl (Nat.le_of_ble_eq_true rfl) dX7_now_58 ⟨Nat.zero_le _, Nat.zero_le _⟩ hW) hA hW.2 (fun H locs hW => ?_)
      refine lv_iload_n S.1 S.2.1 dX7_now_61 rfl (lv_at hl 1 rfl) ?_
      refine lv_iconst (v := (3 : Int32)) S.1 S.2.1 dX7_now_62 (by decide) ?_
      refine lv_icmp_ne (tgt := 73) S.1 S.2.1 dX7_now_63 (by decide) (fun c9 => ?_) (fun c9 => ?_)
      · replace h := (if_neg c9).symm.trans h
        refine lv_aload_n S.1 S.2.1 dX7_now_73 rfl (lv_at hl 0 rfl) ?_
        refine fl_get S hK iX7 rfl lM_0 sM_0 18 (by decide) (hq _ q_329) (fun _ h9 => h9) (fvs_I rfl) hW dX7_now_74 ?_
        obtain ⟨rfl, rfl⟩ := s2 h
        exact fl_iret S.1 S.2.1 hr hlocks hW dX7_now_77
      · replace h := (if_pos c9).symm.trans h
        refine lv_aload_n S.1 S.2.1 dX7_now_66 rfl (lv_at hl 0 rfl) ?_
        obtain ⟨v11, M12, u10, h⟩ := b2_some h
        refine fl_doneI (fl_runV S hK hN (kX7_filled l hJ M8 v11 M12 u10) (cwV 0 S.2.2.2.2 (gV q_413 q_414 q_415 q_291 q_412) rfl rfl rfl (by decide +kernel) ⟨Nat.le_of_ble_eq_true rfl, Nat.le_of_ble_eq_true rfl⟩) (ci := 7) rfl lM_0 sM_0 rfl hl.1 rfl (Nat.le_of_ble_eq_true rfl) dX7_now_67 ⟨Nat.zero_le _, Nat.zero_le _⟩ hW) hA hW.2 (fun H locs hW => ?_)
        refine lv_goto (tgt := 77) S.1 S.2.1 dX7_now_70 (by decide) ?_
        obtain ⟨rfl, rfl⟩ := s2 h
        exact fl_iret S.1 S.2.1 hr hlocks hW dX7_now_77
    · replace h := (if_neg c6).symm.trans h
      refine lv_iload_n S.1 S.2.1 dX7_now_21 rfl (lv_at hl 1 rfl) ?_
      refine lv_if_ne (tgt := 34) S.1 S.2.1 dX7_now_22 (by decide) (fun c13 => ?_) (fun c13 => ?_)
      · replace h := (if_neg c13).symm.trans h
        refine lv_iload_n S.1 S.2.1 dX7_now_34 rfl (lv_at hl 1 rfl) ?_
        refine lv_iconst (v := (1 : Int32)) S.1 S.2.1 dX7_now_35 (by decide) ?_
        refine lv_icmp_ne (tgt := 49) S.1 S.2.1 dX7_now_36 (by decide) (fun c14 => ?_) (fun c14 => ?_)
        · replace h := (if_neg c14).symm.trans h
          refine lv_aload_n S.1 S.2.1 dX7_now_49 rfl (lv_at hl 0 rfl) ?_
          refine fl_get S hK iX7 rfl lM_0 sM_0 14 (by decide) (hq _ q_327) (fun _ h9 => h9) (fvs_R rfl rfl) hW dX7_now_50 ?_
          refine lv_bipush (v := (13 : Int32)) S.1 S.2.1 dX7_now_53 (by decide) ?_
          refine fl_iald S hK lM_6 sM_6 (vp_dec (i := (13 : Int32)) (n := 21) (by decide)) hW dX7_now_55 ?_
          obtain ⟨rfl, rfl⟩ := s2 h
          exact fl_iret S.1 S.2.1 hr hlocks hW dX7_now_56
        · replace h := (if_pos c14).symm.trans h
          refine lv_aload_n S.1 S.2.1 dX7_now_39 rfl (lv_at hl 0 rfl) ?_
          refine fl_get S hK iX7 rfl lM_0 sM_0 14 (by decide) (hq _ q_327) (fun _ h9 => h9) (fvs_R rfl rfl) hW dX7_now_40 ?_
          refine lv_bipush (v := (14 : Int32)) S.1 S.2.1 dX7_now_43 (by decide) ?_
          refine fl_iald S hK lM_6 sM_6 (vp_dec (i := (14 : Int32)) (n := 21) (by decide)) hW dX7_now_45 ?_
          refine lv_goto (tgt := 56) S.1 S.2.1 dX7_now_46 (by decide) ?_
          obtain ⟨rfl, rfl⟩ := s2 h
          exact fl_iret S.1 S.2.1 hr hlocks hW dX7_now_56
      · replace h := (if_pos c13).symm.trans h
        refine lv_aload_n S.1 S.2.1 dX7_now_25 rfl (lv_at hl 0 rfl) ?_
        refine fl_get S hK iX7 rfl lM_0 sM_0 14 (by decide) (hq _ q_327) (fun _ h9 => h9) (fvs_R rfl rfl) hW dX7_now_26 ?_
        refine lv_iconst (v := (0 : Int32)) S.1 S.2.1 dX7_now_29 (by decide) ?_
        refine fl_iald S hK lM_6 sM_6 (vp_dec (i := (0 : Int32)) (n := 21) (by decide)) hW dX7_now_30 ?_
        refine lv_goto (tgt := 56) S.1 S.2.1 dX7_now_31 (by decide) ?_
        obtain ⟨rfl, rfl⟩ := s2 h
        exact fl_iret S.1 S.2.1 hr hlocks hW dX7_now_56
  · replace h := (if_pos c5).symm.trans h
    refine lv_iconst (v := (-1 : Int32)) S.1 S.2.1 dX7_now_14 (by decide) ?_
    obtain ⟨rfl, rfl⟩ := s2 h
    exact fl_iret S.1 S.2.1 hr hlocks hW dX7_now_15

/-! ===== the law, from its entry ===== -/
abbrev PcJ (As : List Value) (D : va_G) (cy : Nat → ClassId) (ad : Nat → Nat) (sz : Nat) : Array Value → State → Prop :=
  va_Pc As (fun U => U.heap.size = sz ∧ va_P D vwCl (wsF ad (cof cy ad kdI shC rf0 Z0) 1) U.heap ∧ va_K D vwCl (tysV cy) U ∧ Nst U ∧ va_AO RX1 U ∧ va_AOA .int U)
theorem PcJ.blind {As : List Value} {D : va_G} {cy : Nat → ClassId} {ad : Nat → Nat} {sz : Nat} : FrameBlind (PcJ As D cy ad sz) := fun a U g mk q => by
  obtain ⟨q0, q1, q2, q3, q4, q5, q6⟩ := q
  exact ⟨q0, q1, q2, va_K.moved (u := U) (U := U.calling g mk a) (Vm.Alike.refl U.vm) q3, Nst.same (u := U) (U := U.calling g mk a) rfl q4, va_AO.moved (u := U) (U := U.calling g mk a) (Vm.Alike.refl U.vm) q5, va_AOA.moved (u := U) (U := U.calling g mk a) (Vm.Alike.refl U.vm) q6⟩
theorem wsF_length (ad : Nat → Nat) (cf : Nat → va_E) (N : Nat) : (wsF ad cf N).length = N := by simp [wsF]
theorem wsF_nil {ad : Nat → Nat} {cf : Nat → va_E} {k : Nat} {q : Nat × va_E} (h : (wsF ad cf 0)[k]? = some q) : False := by
  have := (wsF_some h).1
  omega
def fsX6 : List Value := [.null, .null, .null, .null, .null, .null, .null, .null, .null, .long 0]
def fsX7 : List Value := [.int 0, .long 0, .null, .int 0, .int 0, .int 0, .int 0, .int 0, .int 0, .int 0, .null, .null, .null, .null, .null, .null, .null, .null, .int 0, .null, .null, .int 0, .null, .null, .null]
theorem fsX6_ok : ∀ j, j < 10 → defaultValue (tyX6 j) = vp_V fsX6 j := fun j hj => by
  have : j = 0 ∨ j = 1 ∨ j = 2 ∨ j = 3 ∨ j = 4 ∨ j = 5 ∨ j = 6 ∨ j = 7 ∨ j = 8 ∨ j = 9 := by omega
  rcases this with rfl | rfl | rfl | rfl | rfl | rfl | rfl | rfl | rfl | rfl <;> rfl
theorem fsX7_ok : ∀ j, j < 25 → defaultValue (tyX7 j) = vp_V fsX7 j := fun j hj => by
  have : j = 0 ∨ j = 1 ∨ j = 2 ∨ j = 3 ∨ j = 4 ∨ j = 5 ∨ j = 6 ∨ j = 7 ∨ j = 8 ∨ j = 9 ∨ j = 10 ∨ j = 11 ∨ j = 12 ∨ j = 13 ∨ j = 14 ∨ j = 15 ∨ j = 16 ∨ j = 17 ∨ j = 18 ∨ j = 19 ∨ j = 20 ∨ j = 21 ∨ j = 22 ∨ j = 23 ∨ j = 24 := by omega
  rcases this with rfl | rfl | rfl | rfl | rfl | rfl | rfl | rfl | rfl | rfl | rfl | rfl | rfl | rfl | rfl | rfl | rfl | rfl | rfl | rfl | rfl | rfl | rfl | rfl | rfl <;> rfl
theorem fsX6_is (ad : Nat → Nat) : fvs ad rf0 Z0 0 0 (kdI 6) = fsX6 := rfl
theorem fsX7_is (ad : Nat → Nat) : fvs ad rf0 Z0 0 0 (kdI 7) = fsX7 := rfl
set_option maxHeartbeats 4000000 in
set_option maxRecDepth 100000 in
/-- from the entry, for every script of at most 1536 ints, the law comes to its end with true -/
theorem whole_start {p : Program} {e : Env} {s : State} {m : MethodId} {below : List Frame} {meth : Method} {c : Code} (l : Launch) (hflags : l.flags = flags0) {b L : Nat} {xs : Nat → Int32} (hL : L ≤ 1536) (C0 : lw_At p s m meth c b L xs) : W p l e room_1 s m #[Value.ref b] below meth c s.heap [] 0 0 (lw_Z below #[Value.ref b] s) (entryFrame m ([Value.ref b] : List Value).toArray 4) := by
  obtain ⟨hx, hb, hr, hml, hown, hts, hX, hbl, hlocks, hgv⟩ := id C0
  have S : CallFix p m c code 4 s #[Value.ref b] lw_tbl R_law := ⟨hx, hb, hml, hown, hts⟩
  have hq : ∀ w ∈ GW, w.before #[Value.ref b] s = true := fun w h => hts w (GW_in w h)
  obtain ⟨D, cy, hK⟩ := k_start hts
  have hN : Nst s := k_nst hts
  have hO : va_AO RX1 s := k_AO hts
  have hO2 : va_AOA .int s := k_AOA hts
  obtain ⟨Mc, M2, M3, e1, e2, e3, hR⟩ := MC_start
  have hA : ∀ q : Nat, s.heap.size ≤ q → (fun q : Nat => s.heap.size ≤ q) q := fun _ h => h
  have hl := lv_entry ([.ref b]) (n := 4) (Nat.le_of_ble_eq_true rfl)
  rw [lg_entry_eq]
  generalize (lg_sl ([.ref b]) ++ List.replicate (4 - (lg_sl ([.ref b])).length) Slot.unset).toArray = ls at hl ⊢
  have hl : lv_has ls 4 [(0, .ref b)] := hl
  have hP0 : va_P D vwCl (wsF (fun _ => 0) (cof cy (fun _ => 0) kdI shC rf0 Z0) 0) s.heap := fun k q h => (wsF_nil h).elim
  have hD0 : va_D (fun q : Nat => s.heap.size ≤ q) (wsF (fun _ => 0) (cof cy (fun _ => 0) kdI shC rf0 Z0) 0) := ⟨fun i j p q h => (wsF_nil h).elim, fun k q h => (wsF_nil h).elim⟩
  refine fg_new (sh := shC) (kd := kdI) (rf := rf0) (M := Z0) (N := 0) (ad := fun _ => 0) S hK (fun w h => GW_in w (inX6 w h)) tyX6 tyX6_ok (hq _ z_1_12) (hq _ z_1_13) (hq _ z_1_1) rfl (show shC 0 = (0, 6) from rfl) (fun j hj => by rw [fsX6_is]; exact fsX6_ok j hj) kdI_lt (fun x y b e => by cases e) hA (Nat.le_of_ble_eq_true rfl) (Nat.le_of_ble_eq_true rfl) ⟨hP0, va_S.rf⟩ hD0 dL_law_0 (fun q H hW hD => ?_)
  have f1 : upA (fun _ => 0) 0 q 0 = q := upA_v _ _ _
  generalize upA (fun _ => 0) 0 q = ad1 at hW hD f1
  subst f1
  refine lv_dup S.1 S.2.1 dL_law_3 rfl ?_
  have hm := kX6_init l (D := D) (cy := cy) (ad := ad1) (D_J hD) H.size Mc e1
  have hAA : ∀ q, AG ad1 1 H.size q → (fun q : Nat => s.heap.size ≤ q) q := fun q h => by
    rcases h with ⟨k, hk, rfl⟩ | h
    · exact D_A hD k hk
    · exact hA q (Nat.le_trans hW.2.1 h)
  refine va_callv (va_runI (As := []) (rest := [.ref (ad1 0)]) S hm (cwI 0 hts (gNL z_1_16) rfl rfl rfl (hq _ z_1_1) (hq _ z_1_14) (hq _ z_1_15) rfl (by decide +kernel) ⟨Nat.le_of_ble_eq_true rfl, Nat.le_of_ble_eq_true rfl⟩) ⟨PcJ.blind, fun U hU hWm => ⟨rfl, by rw [hU], by rw [hU]; exact hW.1, va_K.moved hWm.alike hK, Nst.warm hWm hN, va_AO.moved hWm.alike hO, va_AOA.moved hWm.alike hO2⟩⟩ rfl rfl hl.1 rfl (lv_room (Nat.le_of_ble_eq_true rfl)) dL_law_4 ⟨Nat.le_of_ble_eq_true rfl, Nat.le_of_ble_eq_true rfl⟩) hW.2 (fun q _ h => hAA q h) hAA (fun adc t H1 locs ht _ hp hB _ _ hS1 => ?_)
  have hPc : va_P D vwCl (wsF adc (cof cy adc kdV shC rfC Mc) 80) H1 := by rw [← ht]; exact hB.1
  have hDc : va_D (fun q : Nat => s.heap.size ≤ q) (wsF adc (cof cy adc kdV shC rfC Mc) 80) := D_mono hB.2 hAA
  rw [← hp 0 (by omega)]
  clear hB hm hAA hW hD
  refine lv_astore_n (lv' := [(1, .ref (adc 0)), (0, .ref b)]) S.1 S.2.1 dL_law_7 rfl hl (by decide) rfl (fun ls hl => ?_)
  refine va_new (ci := 7) (fs := fsX7) S.1 S.2.1 S.2.2.2.2 (fun w h => GW_in w (inX7 w h)) tyX7 tyX7_ok S.2.2.2.1 (hq _ z_3_117) (hq _ z_3_118) (hq _ z_1_8) hK hPc hDc hS1 hA rfl fsX7_ok (Nat.le_of_ble_eq_true rfl) (Nat.le_of_ble_eq_true rfl) dL_law_8 (fun q2 H2 hP2 hD2 hS2 => ?_)
  have hPc2 : va_P D vwCl (wsF adc (cof cy adc kdV shC rfC Mc) 80) H2 := fun k x hx => hP2 k x (by rw [List.getElem?_append_left (List.getElem?_eq_some_iff.mp hx).1]; exact hx)
  have h80 : (wsF adc (cof cy adc kdV shC rfC Mc) 80 ++ [(q2, .inr (7, fsX7))])[80]? = some ((q2, .inr (7, fsX7)) : Nat × va_E) := by
    rw [List.getElem?_append_right (by rw [wsF_length]; exact Nat.le_refl _), wsF_length]
    rfl
  have hPm2 : va_P D vwCl (wsF (fun _ => q2) (cof cy (fun _ => q2) kdI shM rf0 Z0) 1) H2 := fun k x hx => by
    obtain ⟨hk, rfl⟩ := wsF_some hx
    have hk0 : k = 0 := by omega
    subst hk0
    rw [cof_obj (show shM 0 = (0, 7) from rfl), fsX7_is]
    exact hP2 80 _ h80
  have hlt : ∀ i, i < 80 → adc i < H2.size := fun i hi => (hPc2 i _ (wsF_get hi)).lt
  have hne : ∀ i, i < 80 → adc i ≠ q2 := fun i hi h => by
    have := hD2.1 i 80 _ _ (by rw [List.getElem?_append_left (by rw [wsF_length]; exact hi)]; exact wsF_get hi) h80 h
    omega
  have hq2 : s.heap.size ≤ q2 := hD2.2 80 _ h80
  clear hP2
  refine lv_dup S.1 S.2.1 dL_law_11 rfl ?_
  have hm := kX7_init l (D := D) (cy := cy) (ad := fun _ => q2) 0 rfl rfl rfl rfl rfl rfl rfl rfl rfl rfl rfl rfl rfl rfl rfl rf0 Z0 (fun i j hi hj _ => by omega) (fun x y b e => by cases e) (fun x hx j => rfl) H2.size rfl rfl M2 M3 e2 e3
  have hAA : ∀ q, AG (fun _ => q2) 1 H2.size q → (fun q : Nat => s.heap.size ≤ q) q := fun q h => by
    rcases h with ⟨k, hk, rfl⟩ | h
    · exact hq2
    · exact hA q (Nat.le_trans hS2.1 h)
  refine va_callv (va_runI (As := []) (rest := [.ref q2]) S hm (cwI 0 hts (gNL z_3_121) rfl rfl rfl (hq _ z_1_8) (hq _ z_3_119) (hq _ z_3_120) rfl (by decide +kernel) ⟨Nat.le_of_ble_eq_true rfl, Nat.le_of_ble_eq_true rfl⟩) ⟨PcG.blind, fun U hU hWm => ⟨rfl, by rw [hU], by rw [hU]; exact hPm2, va_K.moved hWm.alike hK, Nst.warm hWm hN⟩⟩ rfl rfl hl.1 rfl (lv_room (Nat.le_of_ble_eq_true rfl)) dL_law_12 ⟨Nat.le_of_ble_eq_true rfl, Nat.le_of_ble_eq_true rfl⟩) hS2 (fun q _ h => hAA q h) hAA (fun adm t2 H3 locs3 ht2 _ hp2 hB2 _ hk2 hS3 => ?_)
  have hPc3 : va_P D vwCl (wsF adc (cof cy adc kdV shC rfC Mc) 80) H3 := hPc2.kept (fun k x hx => by
    obtain ⟨hk, rfl⟩ := wsF_some hx
    refine hk2 _ (hlt k hk) (fun h => ?_)
    rcases h with ⟨j, hj, e⟩ | h
    · exact hne k hk e
    · exact absurd (hlt k hk) (Nat.not_lt.mpr h))
  have hPm3 : va_P D vwCl (wsF adm (cof cy adm kdV shM rfM M3) 15) H3 := by rw [← ht2]; exact hB2.1
  have hDm : va_D (fun q : Nat => s.heap.size ≤ q) (wsF adm (cof cy adm kdV shM rfM M3) 15) := D_mono hB2.2 hAA
  have ap : ∀ i j, i < 80 → j < 15 → adc i ≠ adm j := fun i j hi hj h => by
    have h9 : AG (fun _ => q2) 1 H2.size (adm j) := hB2.2.2 j _ (wsF_get hj)
    rw [← h] at h9
    rcases h9 with ⟨k, _, e⟩ | h9
    · exact hne i hi e
    · exact absurd (hlt i hi) (Nat.not_lt.mpr h9)
  have E : LawE p s m c b L xs D cy adc adm := ⟨S, hK, hN, hX, hbl, D_J hDc, D_J hDm, D_A hDc, D_A hDm, ap⟩
  have hqa : adm 0 = q2 := hp2 0 (by omega)
  rw [← hqa]
  refine lv_astore_n (lv' := [(2, .ref (adm 0)), (1, .ref (adc 0)), (0, .ref b)]) S.1 S.2.1 dL_law_15 rfl hl (by decide) rfl (fun ls hl => ?_)
  refine lv_iconst (v := nI 0) S.1 S.2.1 dL_law_16 (by decide) ?_
  refine lv_istore_n (lv' := [(3, .int (nI 0)), (2, .ref (adm 0)), (1, .ref (adc 0)), (0, .ref b)]) S.1 S.2.1 dL_law_17 rfl hl (by decide) rfl (fun ls hl => ?_)
  refine W.widen (k := 600000) (n := 7302250) (Nat.le_of_ble_eq_true rfl) (Nat.le_of_ble_eq_true rfl) ?_
  exact law_loop hL E hr hlocks (L + 1) 0 (Nat.zero_le L) (by omega) Mc M3 H3 locs3 ls hR ⟨hPc3, hPm3, hS3⟩ (lv_sub hl [3, 2, 1, 0] rfl)

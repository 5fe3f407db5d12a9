/-! ===== the law's loop ===== -/
section LL
variable {p : Program} {l : Launch} {e : Env} {s : State} {m : MethodId} {below : List Frame} {meth : Method} {c : Code}
variable {b L : Nat} {xs : Nat → Int32} {D : va_G} {cy : Nat → ClassId} {adc adm : Nat → Nat}
theorem law_sw (E : LawE p s m c b L xs D cy adc adm) {Mc Md : Mm} {H : Heap} {locs : List Loc} {ls : Array Slot} {Q : State → Prop} {x3 : Int32} (hi1 : vp_in (x3 + 1) L) (hi2 : vp_in (x3 + 2) L) (hR : Rel Mc Md) (hl : lv_has ls 4 [(0, .ref b), (1, .ref (adc 0)), (2, .ref (adm 0)), (3, .int x3)]) {cells slots : Nat} (hf : cells ≤ room_1.cells ∧ slots ≤ room_1.slots) (hW : LW s D cy adc adm Mc Md H locs)
    (K : ∀ (Mc' Md' : Mm) (H1 : Heap) (locs1 : List Loc), Rel Mc' Md' → LW s D cy adc adm Mc' Md' H1 locs1 → W p l e room_1 s m #[Value.ref b] below meth c H1 locs1 cells slots Q (F0 m 771 ls [])) (v : Int32) : W p l e room_1 s m #[Value.ref b] below meth c H locs cells slots Q (F0 m 32 ls [.int v]) := by
  have S := E.1
  by_cases c0 : v = nI 0
  · exact lv_tableIn (off := 120) (tgt := 152) S.1 S.2.1 dL_law_32 (by rw [c0]; decide) (by rw [c0]; decide) (by rw [c0]; rfl) (by decide) (lc_0_type E hi1 hi2 hR hl hf hW K)
  by_cases c1 : v = nI 1
  · exact lv_tableIn (off := 143) (tgt := 175) S.1 S.2.1 dL_law_32 (by rw [c1]; decide) (by rw [c1]; decide) (by rw [c1]; rfl) (by decide) (lc_1_clear E hi1 hi2 hR hl hf hW K)
  by_cases c2 : v = nI 2
  · exact lv_tableIn (off := 156) (tgt := 188) S.1 S.2.1 dL_law_32 (by rw [c2]; decide) (by rw [c2]; decide) (by rw [c2]; rfl) (by decide) (lc_2_town E hi1 hi2 hR hl hf hW K)
  by_cases c3 : v = nI 3
  · exact lv_tableIn (off := 169) (tgt := 201) S.1 S.2.1 dL_law_32 (by rw [c3]; decide) (by rw [c3]; decide) (by rw [c3]; rfl) (by decide) (lc_3_room E hi1 hi2 hR hl hf hW K)
  by_cases c4 : v = nI 4
  · exact lv_tableIn (off := 202) (tgt := 234) S.1 S.2.1 dL_law_32 (by rw [c4]; decide) (by rw [c4]; decide) (by rw [c4]; rfl) (by decide) (lc_4_child E hi1 hi2 hR hl hf hW K)
  by_cases c5 : v = nI 5
  · exact lv_tableIn (off := 235) (tgt := 267) S.1 S.2.1 dL_law_32 (by rw [c5]; decide) (by rw [c5]; decide) (by rw [c5]; rfl) (by decide) (lc_5_work E hi1 hi2 hR hl hf hW K)
  by_cases c6 : v = nI 6
  · exact lv_tableIn (off := 268) (tgt := 300) S.1 S.2.1 dL_law_32 (by rw [c6]; decide) (by rw [c6]; decide) (by rw [c6]; rfl) (by decide) (lc_6_now E hi1 hi2 hR hl hf hW K)
  by_cases c7 : v = nI 7
  · exact lv_tableIn (off := 291) (tgt := 323) S.1 S.2.1 dL_law_32 (by rw [c7]; decide) (by rw [c7]; decide) (by rw [c7]; rfl) (by decide) (lc_7_bears E hi1 hi2 hR hl hf hW K)
  by_cases c8 : v = nI 8
  · exact lv_tableIn (off := 324) (tgt := 356) S.1 S.2.1 dL_law_32 (by rw [c8]; decide) (by rw [c8]; decide) (by rw [c8]; rfl) (by decide) (lc_8_year E hi1 hi2 hR hl hf hW K)
  by_cases c9 : v = nI 9
  · exact lv_tableIn (off := 337) (tgt := 369) S.1 S.2.1 dL_law_32 (by rw [c9]; decide) (by rw [c9]; decide) (by rw [c9]; rfl) (by decide) (lc_9_joins E hi1 hi2 hR hl hf hW K)
  by_cases c10 : v = nI 10
  · exact lv_tableIn (off := 370) (tgt := 402) S.1 S.2.1 dL_law_32 (by rw [c10]; decide) (by rw [c10]; decide) (by rw [c10]; rfl) (by decide) (lc_10_builds E hi1 hi2 hR hl hf hW K)
  by_cases c11 : v = nI 11
  · exact lv_tableIn (off := 393) (tgt := 425) S.1 S.2.1 dL_law_32 (by rw [c11]; decide) (by rw [c11]; decide) (by rw [c11]; rfl) (by decide) (lc_11_undo E hi1 hi2 hR hl hf hW K)
  by_cases c12 : v = nI 12
  · exact lv_tableIn (off := 406) (tgt := 438) S.1 S.2.1 dL_law_32 (by rw [c12]; decide) (by rw [c12]; decide) (by rw [c12]; rfl) (by decide) (lc_12_fills E hi1 hi2 hR hl hf hW K)
  by_cases c13 : v = nI 13
  · exact lv_tableIn (off := 429) (tgt := 461) S.1 S.2.1 dL_law_32 (by rw [c13]; decide) (by rw [c13]; decide) (by rw [c13]; rfl) (by decide) (lc_13_carry E hi1 hi2 hR hl hf hW K)
  by_cases c14 : v = nI 14
  · exact lv_tableIn (off := 462) (tgt := 494) S.1 S.2.1 dL_law_32 (by rw [c14]; decide) (by rw [c14]; decide) (by rw [c14]; rfl) (by decide) (lc_14_join E hi1 hi2 hR hl hf hW K)
  by_cases c15 : v = nI 15
  · exact lv_tableIn (off := 485) (tgt := 517) S.1 S.2.1 dL_law_32 (by rw [c15]; decide) (by rw [c15]; decide) (by rw [c15]; rfl) (by decide) (lc_15_elder E hi1 hi2 hR hl hf hW K)
  by_cases c16 : v = nI 16
  · exact lv_tableIn (off := 508) (tgt := 540) S.1 S.2.1 dL_law_32 (by rw [c16]; decide) (by rw [c16]; decide) (by rw [c16]; rfl) (by decide) (lc_16_odds E hi1 hi2 hR hl hf hW K)
  by_cases c17 : v = nI 17
  · exact lv_tableIn (off := 541) (tgt := 573) S.1 S.2.1 dL_law_32 (by rw [c17]; decide) (by rw [c17]; decide) (by rw [c17]; rfl) (by decide) (lc_17_sees E hi1 hi2 hR hl hf hW K)
  by_cases c18 : v = nI 18
  · exact lv_tableIn (off := 574) (tgt := 606) S.1 S.2.1 dL_law_32 (by rw [c18]; decide) (by rw [c18]; decide) (by rw [c18]; rfl) (by decide) (lc_18_forget E hi1 hi2 hR hl hf hW K)
  by_cases c19 : v = nI 19
  · exact lv_tableIn (off := 587) (tgt := 619) S.1 S.2.1 dL_law_32 (by rw [c19]; decide) (by rw [c19]; decide) (by rw [c19]; rfl) (by decide) (lc_19_ages E hi1 hi2 hR hl hf hW K)
  by_cases c20 : v = nI 20
  · exact lv_tableIn (off := 610) (tgt := 642) S.1 S.2.1 dL_law_32 (by rw [c20]; decide) (by rw [c20]; decide) (by rw [c20]; rfl) (by decide) (lc_20_next E hi1 hi2 hR hl hf hW K)
  by_cases c21 : v = nI 21
  · exact lv_tableIn (off := 623) (tgt := 655) S.1 S.2.1 dL_law_32 (by rw [c21]; decide) (by rw [c21]; decide) (by rw [c21]; rfl) (by decide) (lc_21_rate E hi1 hi2 hR hl hf hW K)
  by_cases c22 : v = nI 22
  · exact lv_tableIn (off := 656) (tgt := 688) S.1 S.2.1 dL_law_32 (by rw [c22]; decide) (by rw [c22]; decide) (by rw [c22]; rfl) (by decide) (lc_22_keep E hi1 hi2 hR hl hf hW K)
  by_cases c23 : v = nI 23
  · exact lv_tableIn (off := 679) (tgt := 711) S.1 S.2.1 dL_law_32 (by rw [c23]; decide) (by rw [c23]; decide) (by rw [c23]; rfl) (by decide) (lc_23_back E hi1 hi2 hR hl hf hW K)
  by_cases c24 : v = nI 24
  · exact lv_tableIn (off := 702) (tgt := 734) S.1 S.2.1 dL_law_32 (by rw [c24]; decide) (by rw [c24]; decide) (by rw [c24]; rfl) (by decide) (lc_24_count E hi1 hi2 hR hl hf hW K)
  by_cases c25 : v = nI 25
  · exact lv_tableIn (off := 725) (tgt := 757) S.1 S.2.1 dL_law_32 (by rw [c25]; decide) (by rw [c25]; decide) (by rw [c25]; rfl) (by decide) (lc_25_trace E hi1 hi2 hR hl hf hW K)
  exact lv_tableOut (tgt := 771) S.1 S.2.1 dL_law_32 (tsw_out (n := 26) (by decide) (by intro k hk; match k, hk with | 0, _ => exact c0 | 1, _ => exact c1 | 2, _ => exact c2 | 3, _ => exact c3 | 4, _ => exact c4 | 5, _ => exact c5 | 6, _ => exact c6 | 7, _ => exact c7 | 8, _ => exact c8 | 9, _ => exact c9 | 10, _ => exact c10 | 11, _ => exact c11 | 12, _ => exact c12 | 13, _ => exact c13 | 14, _ => exact c14 | 15, _ => exact c15 | 16, _ => exact c16 | 17, _ => exact c17 | 18, _ => exact c18 | 19, _ => exact c19 | 20, _ => exact c20 | 21, _ => exact c21 | 22, _ => exact c22 | 23, _ => exact c23 | 24, _ => exact c24 | 25, _ => exact c25 | k + 26, hk => omega)) (by decide) (K Mc Md H locs hR hW)
theorem law_loop (hL : L ≤ 1536) (E : LawE p s m c b L xs D cy adc adm) (hr : meth.sig.returnType = ret) (hlocks : meth.locks = false) : ∀ (n j : Nat), j ≤ L → L + 1 ≤ j + 3 * n → ∀ (Mc Md : Mm) (H : Heap) (locs : List Loc) (ls : Array Slot), Rel Mc Md → LW s D cy adc adm Mc Md H locs → lv_has ls 4 [(0, .ref b), (1, .ref (adc 0)), (2, .ref (adm 0)), (3, .int (nI j))] → W p l e room_1 s m #[Value.ref b] below meth c H locs 600000 7302250 (lw_Z below #[Value.ref b] s) (F0 m 18 ls []) := by
  have S := E.1
  have hX := E.2.2.2.1
  have hbl := E.2.2.2.2.1
  have hbA : ¬ (fun q : Nat => s.heap.size ≤ q) b := Nat.not_le.mpr hbl
  intro n
  induction n with
  | zero =>
    intro j h1 h2
    exact absurd h2 (by omega)
  | succ n ih =>
    intro j h1 h2 Mc Md H locs ls hR hW hl
    refine lv_iload_n S.1 S.2.1 dL_law_18 rfl (lv_at hl 3 rfl) ?_
    refine lv_aload_n S.1 S.2.1 dL_law_19 rfl (lv_at hl 0 rfl) ?_
    refine va_slen S.1 S.2.1 hX hbl hbA hW.2.2 dL_law_20 ?_
    refine lv_iconst (v := nI 3) S.1 S.2.1 dL_law_21 (by decide) ?_
    refine lv_isub S.1 S.2.1 dL_law_22 ?_
    refine lv_icmp_gt (tgt := 777) S.1 S.2.1 dL_law_23 (by decide) (fun q => ?_) (fun q => ?_)
    · refine lv_iconst (v := 1) S.1 S.2.1 dL_law_777 (by decide) ?_
      refine va_forget (fun q hq => hW.2.2.2.2 q hq) ?_
      exact lw_ret S.1 S.2.1 hr hlocks dL_law_778
    · have h3 : j + 3 ≤ L := by
        have h : ¬ (nI L - nI 3 < nI j) := q
        rw [sub_lt (by omega) (by omega) (by omega)] at h
        omega
      have hi1 : vp_in (nI j + 1) L := by
        rw [nI_1]
        exact vp_in_nI (by omega) (by omega)
      have hi2 : vp_in (nI j + 2) L := by
        rw [show nI j + 2 = nI (j + 2) from nI_add j 2]
        exact vp_in_nI (by omega) (by omega)
      refine lv_aload_n S.1 S.2.1 dL_law_26 rfl (lv_at hl 0 rfl) ?_
      refine lv_iload_n S.1 S.2.1 dL_law_27 rfl (lv_at hl 3 rfl) ?_
      refine va_sld S.1 S.2.1 hX hbl hbA hW.2.2 (vp_in_nI (by omega) (by omega)) dL_law_28 ?_
      refine lv_bipush (v := 31) S.1 S.2.1 dL_law_29 (by decide) ?_
      refine lv_iand S.1 S.2.1 dL_law_31 ?_
      refine law_sw E hi1 hi2 hR hl ⟨Nat.le_of_ble_eq_true rfl, Nat.le_of_ble_eq_true rfl⟩ hW (fun Mc' Md' H1 locs1 hR' hW' => ?_) _
      refine lv_iinc (v := nI (j + 3)) (lv' := [(3, .int (nI (j + 3))), (0, .ref b), (1, .ref (adc 0)), (2, .ref (adm 0))]) S.1 S.2.1 dL_law_771 hl (k := 3) rfl (nI_add j 3) (by decide) rfl (fun ls hl => ?_)
      refine lv_goto (tgt := 18) S.1 S.2.1 dL_law_774 (by decide) ?_
      exact ih (j + 3) (by omega) (by omega) Mc' Md' H1 locs1 ls hR' hW' (lv_sub hl [1, 2, 3, 0] rfl)
end LL

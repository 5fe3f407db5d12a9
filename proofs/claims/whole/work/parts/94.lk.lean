/-! ===== the law: what the tables say at the start ===== -/
theorem nF_0 : Cond.fieldLinkNest RX6 70 "RoomBorn$Text" "length" "I" "RoomBorn" ∈ lw_tbl := List.mem_append_right _ (List.mem_append_left _ (List.mem_of_getElem? (i := 28) rfl))
theorem nF_1 : Cond.fieldLinkNest RX6 82 "RoomBorn$Text" "start" "I" "RoomBorn" ∈ lw_tbl := List.mem_append_right _ (List.mem_append_left _ (List.mem_of_getElem? (i := 30) rfl))
theorem nF_2 : Cond.fieldLinkNest RX6 95 "RoomBorn$Moment" "old" "[I" "RoomBorn" ∈ lw_tbl := List.mem_append_right _ (List.mem_append_left _ (List.mem_of_getElem? (i := 61) rfl))
theorem nF_3 : Cond.fieldLinkNest RX6 103 "RoomBorn$Moment" "joined" "[I" "RoomBorn" ∈ lw_tbl := List.mem_append_right _ (List.mem_append_left _ (List.mem_of_getElem? (i := 63) rfl))
theorem nF_4 : Cond.fieldLinkNest RX6 119 "RoomBorn$Moment" "age" "[I" "RoomBorn" ∈ lw_tbl := List.mem_append_right _ (List.mem_append_left _ (List.mem_of_getElem? (i := 65) rfl))
theorem nF_5 : Cond.fieldLinkNest RX6 141 "RoomBorn$Moment" "yearNumber" "I" "RoomBorn" ∈ lw_tbl := List.mem_append_right _ (List.mem_append_left _ (List.mem_of_getElem? (i := 67) rfl))
theorem nF_6 : Cond.fieldLinkNest RX6 109 "RoomBorn$Moment" "born" "I" "RoomBorn" ∈ lw_tbl := List.mem_append_right _ (List.mem_append_left _ (List.mem_of_getElem? (i := 69) rfl))
theorem nF_7 : Cond.fieldLinkNest RX6 116 "RoomBorn$Moment" "living" "I" "RoomBorn" ∈ lw_tbl := List.mem_append_right _ (List.mem_append_left _ (List.mem_of_getElem? (i := 71) rfl))
theorem nF_8 : Cond.fieldLinkNest RX6 148 "RoomBorn$Past" "known" "I" "RoomBorn" ∈ lw_tbl := List.mem_append_right _ (List.mem_append_left _ (List.mem_of_getElem? (i := 97) rfl))
theorem nF_9 : Cond.fieldLinkNest RX6 188 "RoomBorn$Filling" "can" "[I" "RoomBorn" ∈ lw_tbl := List.mem_append_right _ (List.mem_append_left _ (List.mem_of_getElem? (i := 114) rfl))
theorem nF_10 : Cond.fieldLinkNest RX6 272 "RoomBorn$Filling" "children" "I" "RoomBorn" ∈ lw_tbl := List.mem_append_right _ (List.mem_append_left _ (List.mem_of_getElem? (i := 117) rfl))
theorem nF_11 : Cond.fieldLinkNest RX6 275 "RoomBorn$Filling" "works" "I" "RoomBorn" ∈ lw_tbl := List.mem_append_right _ (List.mem_append_left _ (List.mem_of_getElem? (i := 119) rfl))
theorem nF_12 : Cond.fieldLinkNest RX6 220 "RoomBorn$Seen" "known" "I" "RoomBorn" ∈ lw_tbl := List.mem_append_right _ (List.mem_append_left _ (List.mem_of_getElem? (i := 139) rfl))
theorem nF_13 : Cond.fieldLinkNest RX1 31 "RoomBorn$Told" "old" "[I" "RoomBorn" ∈ lw_tbl := List.mem_append_right _ (List.mem_append_left _ (List.mem_of_getElem? (i := 158) rfl))
theorem nF_14 : Cond.fieldLinkNest RX4 70 "RoomBorn$Told" "old" "[I" "RoomBorn" ∈ lw_tbl := List.mem_append_right _ (List.mem_append_left _ (List.mem_of_getElem? (i := 159) rfl))
theorem nF_15 : Cond.fieldLinkNest RX4 79 "RoomBorn$Told" "low" "[I" "RoomBorn" ∈ lw_tbl := List.mem_append_right _ (List.mem_append_left _ (List.mem_of_getElem? (i := 161) rfl))
theorem nF_16 : Cond.fieldLinkNest RX6 128 "RoomBorn$Told" "low" "[I" "RoomBorn" ∈ lw_tbl := List.mem_append_right _ (List.mem_append_left _ (List.mem_of_getElem? (i := 162) rfl))
theorem nF_17 : Cond.fieldLinkNest RX4 82 "RoomBorn$Told" "high" "[I" "RoomBorn" ∈ lw_tbl := List.mem_append_right _ (List.mem_append_left _ (List.mem_of_getElem? (i := 164) rfl))
theorem nF_18 : Cond.fieldLinkNest RX6 131 "RoomBorn$Told" "high" "[I" "RoomBorn" ∈ lw_tbl := List.mem_append_right _ (List.mem_append_left _ (List.mem_of_getElem? (i := 165) rfl))
theorem nF_19 : Cond.fieldLinkNest RX4 48 "RoomBorn$Told" "items" "I" "RoomBorn" ∈ lw_tbl := List.mem_append_right _ (List.mem_append_left _ (List.mem_of_getElem? (i := 167) rfl))
theorem nF_20 : Cond.fieldLinkNest RX6 88 "RoomBorn$Told" "items" "I" "RoomBorn" ∈ lw_tbl := List.mem_append_right _ (List.mem_append_left _ (List.mem_of_getElem? (i := 168) rfl))
theorem nF_21 : Cond.fieldLinkNest RX4 63 "RoomBorn$Told" "rooms" "I" "RoomBorn" ∈ lw_tbl := List.mem_append_right _ (List.mem_append_left _ (List.mem_of_getElem? (i := 170) rfl))
theorem nF_22 : Cond.fieldLinkNest RX1 54 "RoomBorn$Told" "rooms" "I" "RoomBorn" ∈ lw_tbl := List.mem_append_right _ (List.mem_append_left _ (List.mem_of_getElem? (i := 171) rfl))
theorem nF_23 : Cond.fieldLinkNest RX6 185 "RoomBorn$Told" "rooms" "I" "RoomBorn" ∈ lw_tbl := List.mem_append_right _ (List.mem_append_left _ (List.mem_of_getElem? (i := 172) rfl))
theorem nF_24 : Cond.fieldLinkNest RX4 85 "RoomBorn$Told" "mothers" "I" "RoomBorn" ∈ lw_tbl := List.mem_append_right _ (List.mem_append_left _ (List.mem_of_getElem? (i := 174) rfl))
theorem nF_25 : Cond.fieldLinkNest RX1 57 "RoomBorn$Told" "mothers" "I" "RoomBorn" ∈ lw_tbl := List.mem_append_right _ (List.mem_append_left _ (List.mem_of_getElem? (i := 175) rfl))
theorem nF_26 : Cond.fieldLinkNest RX6 205 "RoomBorn$Told" "mothers" "I" "RoomBorn" ∈ lw_tbl := List.mem_append_right _ (List.mem_append_left _ (List.mem_of_getElem? (i := 176) rfl))
theorem nF_27 : Cond.fieldLinkNest RX4 76 "RoomBorn$Told" "works" "I" "RoomBorn" ∈ lw_tbl := List.mem_append_right _ (List.mem_append_left _ (List.mem_of_getElem? (i := 178) rfl))
theorem nF_28 : Cond.fieldLinkNest RX6 233 "RoomBorn$Told" "works" "I" "RoomBorn" ∈ lw_tbl := List.mem_append_right _ (List.mem_append_left _ (List.mem_of_getElem? (i := 179) rfl))
theorem nF_29 : Cond.fieldLinkNest RX1 60 "RoomBorn$Told" "life" "I" "RoomBorn" ∈ lw_tbl := List.mem_append_right _ (List.mem_append_left _ (List.mem_of_getElem? (i := 181) rfl))
theorem nF_30 : Cond.fieldLinkNest RX4 88 "RoomBorn$Told" "life" "I" "RoomBorn" ∈ lw_tbl := List.mem_append_right _ (List.mem_append_left _ (List.mem_of_getElem? (i := 182) rfl))
theorem nF_31 : Cond.fieldLinkNest RX6 155 "RoomBorn$Told" "life" "I" "RoomBorn" ∈ lw_tbl := List.mem_append_right _ (List.mem_append_left _ (List.mem_of_getElem? (i := 183) rfl))
theorem nM_0 : Cond.methodLinkNest RX6 9 yX4_init "RoomBorn" ∈ lw_tbl := List.mem_append_right _ (List.mem_append_left _ (List.mem_of_getElem? (i := 22) rfl))
theorem nM_1 : Cond.methodLinkNest RX6 18 yX1_init "RoomBorn" ∈ lw_tbl := List.mem_append_right _ (List.mem_append_left _ (List.mem_of_getElem? (i := 56) rfl))
theorem nM_2 : Cond.methodLinkNest RX6 25 yX2_init "RoomBorn" ∈ lw_tbl := List.mem_append_right _ (List.mem_append_left _ (List.mem_of_getElem? (i := 87) rfl))
theorem nM_3 : Cond.methodLinkNest RX2 24 yX1_init "RoomBorn" ∈ lw_tbl := List.mem_append_right _ (List.mem_append_left _ (List.mem_of_getElem? (i := 93) rfl))
theorem nM_4 : Cond.methodLinkNest RX6 40 yX0_init "RoomBorn" ∈ lw_tbl := List.mem_append_right _ (List.mem_append_left _ (List.mem_of_getElem? (i := 107) rfl))
theorem nM_5 : Cond.methodLinkNest RX6 47 yX3_init "RoomBorn" ∈ lw_tbl := List.mem_append_right _ (List.mem_append_left _ (List.mem_of_getElem? (i := 132) rfl))
theorem nM_6 : Cond.methodLinkNest RX6 54 yX5_init "RoomBorn" ∈ lw_tbl := List.mem_append_right _ (List.mem_append_left _ (List.mem_of_getElem? (i := 149) rfl))
theorem nM_7 : Cond.methodLinkNest RX6 66 yX1_begin "RoomBorn" ∈ lw_tbl := List.mem_append_right _ (List.mem_append_left _ (List.mem_of_getElem? (i := 201) rfl))
theorem nM_8 : Cond.methodLinkNest RX1 34 yX6_bit "RoomBorn" ∈ lw_tbl := List.mem_append_right _ (List.mem_append_left _ (List.mem_of_getElem? (i := 205) rfl))
theorem nM_9 : Cond.methodLinkNest RX6 74 yX4_add "RoomBorn" ∈ lw_tbl := List.mem_append_right _ (List.mem_append_right _ (List.mem_append_left _ (List.mem_of_getElem? (i := 3) rfl)))
theorem nM_10 : Cond.methodLinkNest RX6 78 yX4_reads "RoomBorn" ∈ lw_tbl := List.mem_append_right _ (List.mem_append_right _ (List.mem_append_left _ (List.mem_of_getElem? (i := 15) rfl)))
theorem nM_11 : Cond.methodLinkNest RX4 29 yX5_tellNothing "RoomBorn" ∈ lw_tbl := List.mem_append_right _ (List.mem_append_right _ (List.mem_append_left _ (List.mem_of_getElem? (i := 19) rfl)))
theorem nM_12 : Cond.methodLinkNest RX6 99 yX1_ageOfRoom "RoomBorn" ∈ lw_tbl := List.mem_append_right _ (List.mem_append_right _ (List.mem_append_left _ (List.mem_of_getElem? (i := 74) rfl)))
theorem nM_13 : Cond.methodLinkNest RX1 47 yX6_has "RoomBorn" ∈ lw_tbl := List.mem_append_right _ (List.mem_append_right _ (List.mem_append_left _ (List.mem_of_getElem? (i := 82) rfl)))
theorem nM_14 : Cond.methodLinkNest RX6 191 yX5_worksAt "RoomBorn" ∈ lw_tbl := List.mem_append_right _ (List.mem_append_right _ (List.mem_append_left _ (List.mem_of_getElem? (i := 99) rfl)))
theorem nM_15 : Cond.methodLinkNest RX5 47 yX6_bit "RoomBorn" ∈ lw_tbl := List.mem_append_right _ (List.mem_append_right _ (List.mem_append_left _ (List.mem_of_getElem? (i := 111) rfl)))
theorem nM_16 : Cond.methodLinkNest RX6 269 yX5_does "RoomBorn" ∈ lw_tbl := List.mem_append_right _ (List.mem_append_right _ (List.mem_append_left _ (List.mem_of_getElem? (i := 124) rfl)))
theorem nM_17 : Cond.methodLinkNest RX6 194 yX0_solve "RoomBorn" ∈ lw_tbl := List.mem_append_right _ (List.mem_append_right _ (List.mem_append_left _ (List.mem_of_getElem? (i := 141) rfl)))
theorem nM_18 : Cond.methodLinkNest RX0 27 yX6_bit "RoomBorn" ∈ lw_tbl := List.mem_append_right _ (List.mem_append_right _ (List.mem_append_left _ (List.mem_of_getElem? (i := 145) rfl)))
theorem nM_19 : Cond.methodLinkNest RX0 44 yX6_has "RoomBorn" ∈ lw_tbl := List.mem_append_right _ (List.mem_append_right _ (List.mem_append_left _ (List.mem_of_getElem? (i := 154) rfl)))
theorem nM_20 : Cond.methodLinkNest RX6 151 yX2_remember "RoomBorn" ∈ lw_tbl := List.mem_append_right _ (List.mem_append_right _ (List.mem_append_left _ (List.mem_of_getElem? (i := 162) rfl)))
theorem nM_21 : Cond.methodLinkNest RX2 25 yX1_become "RoomBorn" ∈ lw_tbl := List.mem_append_right _ (List.mem_append_right _ (List.mem_append_left _ (List.mem_of_getElem? (i := 166) rfl)))
theorem nM_22 : Cond.methodLinkNest RX6 158 yX1_bear "RoomBorn" ∈ lw_tbl := List.mem_append_right _ (List.mem_append_right _ (List.mem_append_left _ (List.mem_of_getElem? (i := 174) rfl)))
theorem nM_23 : Cond.methodLinkNest RX6 162 yX1_passYear "RoomBorn" ∈ lw_tbl := List.mem_append_right _ (List.mem_append_right _ (List.mem_append_left _ (List.mem_of_getElem? (i := 183) rfl)))
theorem nM_24 : Cond.methodLinkNest RX6 166 yX1_knockThrough "RoomBorn" ∈ lw_tbl := List.mem_append_right _ (List.mem_append_right _ (List.mem_append_left _ (List.mem_of_getElem? (i := 191) rfl)))
theorem nM_25 : Cond.methodLinkNest RX6 173 yX1_buildAnew "RoomBorn" ∈ lw_tbl := List.mem_append_right _ (List.mem_append_right _ (List.mem_append_left _ (List.mem_of_getElem? (i := 199) rfl)))
theorem nM_26 : Cond.methodLinkNest RX6 176 yX2_restore "RoomBorn" ∈ lw_tbl := List.mem_append_right _ (List.mem_append_right _ (List.mem_append_left _ (List.mem_of_getElem? (i := 207) rfl)))
theorem nM_27 : Cond.methodLinkNest RX6 179 yX0_workOf "RoomBorn" ∈ lw_tbl := List.mem_append_right _ (List.mem_append_right _ (List.mem_append_left _ (List.mem_of_getElem? (i := 215) rfl)))
theorem nM_28 : Cond.methodLinkNest RX6 202 yX1_ageTogether "RoomBorn" ∈ lw_tbl := List.mem_append_right _ (List.mem_append_right _ (List.mem_append_left _ (List.mem_of_getElem? (i := 237) rfl)))
theorem nM_29 : Cond.methodLinkNest RX6 208 yX1_howManyAheadOf "RoomBorn" ∈ lw_tbl := List.mem_append_right _ (List.mem_append_right _ (List.mem_append_right _ (List.mem_append_left _ (List.mem_of_getElem? (i := 2) rfl))))
theorem nM_30 : Cond.methodLinkNest RX6 221 yX3_add "RoomBorn" ∈ lw_tbl := List.mem_append_right _ (List.mem_append_right _ (List.mem_append_right _ (List.mem_append_left _ (List.mem_of_getElem? (i := 24) rfl))))
theorem nM_31 : Cond.methodLinkNest RX6 276 yX3_allows "RoomBorn" ∈ lw_tbl := List.mem_append_right _ (List.mem_append_right _ (List.mem_append_right _ (List.mem_append_left _ (List.mem_of_getElem? (i := 40) rfl))))
theorem nM_32 : Cond.methodLinkNest RX3 23 yX5_spans "RoomBorn" ∈ lw_tbl := List.mem_append_right _ (List.mem_append_right _ (List.mem_append_right _ (List.mem_append_left _ (List.mem_of_getElem? (i := 44) rfl))))
theorem nM_33 : Cond.methodLinkNest RX6 280 yX5_spans "RoomBorn" ∈ lw_tbl := List.mem_append_right _ (List.mem_append_right _ (List.mem_append_right _ (List.mem_append_left _ (List.mem_of_getElem? (i := 61) rfl))))
theorem nM_34 : Cond.methodLinkNest RX6 266 yX1_become "RoomBorn" ∈ lw_tbl := List.mem_append_right _ (List.mem_append_right _ (List.mem_append_right _ (List.mem_append_left _ (List.mem_of_getElem? (i := 104) rfl))))
theorem k_nst {s : State} {b : Nat} (hts : ∀ w ∈ lw_tbl, w.before #[Value.ref b] s = true) : Nst s := by
  constructor
  · exact List.forall_mem_cons.mpr ⟨va_Nw.of rfl (hts _ nF_0), List.forall_mem_cons.mpr ⟨va_Nw.of rfl (hts _ nF_1), List.forall_mem_cons.mpr ⟨va_Nw.of rfl (hts _ nF_2), List.forall_mem_cons.mpr ⟨va_Nw.of rfl (hts _ nF_3), List.forall_mem_cons.mpr ⟨va_Nw.of rfl (hts _ nF_4), List.forall_mem_cons.mpr ⟨va_Nw.of rfl (hts _ nF_5), List.forall_mem_cons.mpr ⟨va_Nw.of rfl (hts _ nF_6), List.forall_mem_cons.mpr ⟨va_Nw.of rfl (hts _ nF_7), List.forall_mem_cons.mpr ⟨va_Nw.of rfl (hts _ nF_8), List.forall_mem_cons.mpr ⟨va_Nw.of rfl (hts _ nF_9), List.forall_mem_cons.mpr ⟨va_Nw.of rfl (hts _ nF_10), List.forall_mem_cons.mpr ⟨va_Nw.of rfl (hts _ nF_11), List.forall_mem_cons.mpr ⟨va_Nw.of rfl (hts _ nF_12), List.forall_mem_cons.mpr ⟨va_Nw.of rfl (hts _ nF_13), List.forall_mem_cons.mpr ⟨va_Nw.of rfl (hts _ nF_14), List.forall_mem_cons.mpr ⟨va_Nw.of rfl (hts _ nF_15), List.forall_mem_cons.mpr ⟨va_Nw.of rfl (hts _ nF_16), List.forall_mem_cons.mpr ⟨va_Nw.of rfl (hts _ nF_17), List.forall_mem_cons.mpr ⟨va_Nw.of rfl (hts _ nF_18), List.forall_mem_cons.mpr ⟨va_Nw.of rfl (hts _ nF_19), List.forall_mem_cons.mpr ⟨va_Nw.of rfl (hts _ nF_20), List.forall_mem_cons.mpr ⟨va_Nw.of rfl (hts _ nF_21), List.forall_mem_cons.mpr ⟨va_Nw.of rfl (hts _ nF_22), List.forall_mem_cons.mpr ⟨va_Nw.of rfl (hts _ nF_23), List.forall_mem_cons.mpr ⟨va_Nw.of rfl (hts _ nF_24), List.forall_mem_cons.mpr ⟨va_Nw.of rfl (hts _ nF_25), List.forall_mem_cons.mpr ⟨va_Nw.of rfl (hts _ nF_26), List.forall_mem_cons.mpr ⟨va_Nw.of rfl (hts _ nF_27), List.forall_mem_cons.mpr ⟨va_Nw.of rfl (hts _ nF_28), List.forall_mem_cons.mpr ⟨va_Nw.of rfl (hts _ nF_29), List.forall_mem_cons.mpr ⟨va_Nw.of rfl (hts _ nF_30), List.forall_mem_cons.mpr ⟨va_Nw.of rfl (hts _ nF_31), fun _ h => absurd h List.not_mem_nil⟩⟩⟩⟩⟩⟩⟩⟩⟩⟩⟩⟩⟩⟩⟩⟩⟩⟩⟩⟩⟩⟩⟩⟩⟩⟩⟩⟩⟩⟩⟩⟩
  · exact List.forall_mem_cons.mpr ⟨va_Nw.of rfl (hts _ nM_0), List.forall_mem_cons.mpr ⟨va_Nw.of rfl (hts _ nM_1), List.forall_mem_cons.mpr ⟨va_Nw.of rfl (hts _ nM_2), List.forall_mem_cons.mpr ⟨va_Nw.of rfl (hts _ nM_3), List.forall_mem_cons.mpr ⟨va_Nw.of rfl (hts _ nM_4), List.forall_mem_cons.mpr ⟨va_Nw.of rfl (hts _ nM_5), List.forall_mem_cons.mpr ⟨va_Nw.of rfl (hts _ nM_6), List.forall_mem_cons.mpr ⟨va_Nw.of rfl (hts _ nM_7), List.forall_mem_cons.mpr ⟨va_Nw.of rfl (hts _ nM_8), List.forall_mem_cons.mpr ⟨va_Nw.of rfl (hts _ nM_9), List.forall_mem_cons.mpr ⟨va_Nw.of rfl (hts _ nM_10), List.forall_mem_cons.mpr ⟨va_Nw.of rfl (hts _ nM_11), List.forall_mem_cons.mpr ⟨va_Nw.of rfl (hts _ nM_12), List.forall_mem_cons.mpr ⟨va_Nw.of rfl (hts _ nM_13), List.forall_mem_cons.mpr ⟨va_Nw.of rfl (hts _ nM_14), List.forall_mem_cons.mpr ⟨va_Nw.of rfl (hts _ nM_15), List.forall_mem_cons.mpr ⟨va_Nw.of rfl (hts _ nM_16), List.forall_mem_cons.mpr ⟨va_Nw.of rfl (hts _ nM_17), List.forall_mem_cons.mpr ⟨va_Nw.of rfl (hts _ nM_18), List.forall_mem_cons.mpr ⟨va_Nw.of rfl (hts _ nM_19), List.forall_mem_cons.mpr ⟨va_Nw.of rfl (hts _ nM_20), List.forall_mem_cons.mpr ⟨va_Nw.of rfl (hts _ nM_21), List.forall_mem_cons.mpr ⟨va_Nw.of rfl (hts _ nM_22), List.forall_mem_cons.mpr ⟨va_Nw.of rfl (hts _ nM_23), List.forall_mem_cons.mpr ⟨va_Nw.of rfl (hts _ nM_24), List.forall_mem_cons.mpr ⟨va_Nw.of rfl (hts _ nM_25), List.forall_mem_cons.mpr ⟨va_Nw.of rfl (hts _ nM_26), List.forall_mem_cons.mpr ⟨va_Nw.of rfl (hts _ nM_27), List.forall_mem_cons.mpr ⟨va_Nw.of rfl (hts _ nM_28), List.forall_mem_cons.mpr ⟨va_Nw.of rfl (hts _ nM_29), List.forall_mem_cons.mpr ⟨va_Nw.of rfl (hts _ nM_30), List.forall_mem_cons.mpr ⟨va_Nw.of rfl (hts _ nM_31), List.forall_mem_cons.mpr ⟨va_Nw.of rfl (hts _ nM_32), List.forall_mem_cons.mpr ⟨va_Nw.of rfl (hts _ nM_33), List.forall_mem_cons.mpr ⟨va_Nw.of rfl (hts _ nM_34), fun _ h => absurd h List.not_mem_nil⟩⟩⟩⟩⟩⟩⟩⟩⟩⟩⟩⟩⟩⟩⟩⟩⟩⟩⟩⟩⟩⟩⟩⟩⟩⟩⟩⟩⟩⟩⟩⟩⟩⟩⟩
theorem k_start {s : State} {b : Nat} (hts : ∀ w ∈ lw_tbl, w.before #[Value.ref b] s = true) : ∃ (D : va_G) (cy : Nat → ClassId), va_K D vwCl (tysV cy) s := by
  obtain ⟨c0, i0, h0⟩ := u_known (C := RX0) (T := TX0) (N := 4) (n := 4) hts (fun w h => GW_in w (inX0 w h)) (hts _ (GW_in _ z_1_106))
  obtain ⟨c1, i1, h1⟩ := u_known (C := RX1) (T := TX1) (N := 6) (n := 6) hts (fun w h => GW_in w (inX1 w h)) (hts _ (GW_in _ z_1_55))
  obtain ⟨c2, i2, h2⟩ := u_known (C := RX2) (T := TX2) (N := 3) (n := 3) hts (fun w h => GW_in w (inX2 w h)) (hts _ (GW_in _ z_1_86))
  obtain ⟨c3, i3, h3⟩ := u_known (C := RX3) (T := TX3) (N := 3) (n := 3) hts (fun w h => GW_in w (inX3 w h)) (hts _ (GW_in _ z_1_131))
  obtain ⟨c4, i4, h4⟩ := u_known (C := RX4) (T := TX4) (N := 8) (n := 8) hts (fun w h => GW_in w (inX4 w h)) (hts _ (GW_in _ z_1_21))
  obtain ⟨c5, i5, h5⟩ := u_known (C := RX5) (T := TX5) (N := 8) (n := 8) hts (fun w h => GW_in w (inX5 w h)) (hts _ (GW_in _ z_1_148))
  obtain ⟨c6, i6, h6⟩ := u_known (C := RX6) (T := TX6) (N := 10) (n := 10) hts (fun w h => GW_in w (inX6 w h)) (hts _ (GW_in _ z_1_13))
  obtain ⟨c7, i7, h7⟩ := u_known (C := RX7) (T := TX7) (N := 25) (n := 25) hts (fun w h => GW_in w (inX7 w h)) (hts _ (GW_in _ z_3_118))
  obtain ⟨a0, ka0, p0, f0, g0, q0⟩ := Cond.arrayClass_spec (hts _ (GW_in _ z_1_53))
  obtain ⟨a1, ka1, p1, f1, g1, q1⟩ := Cond.arrayClass_spec (hts _ (GW_in _ z_1_129))
  obtain ⟨p2, a2, ka2, f2, -, g2, q2, r2⟩ := Cond.arrayOver_spec (hts _ (List.mem_append_right _ (List.mem_append_left _ (List.mem_of_getElem? (i := 92) rfl))))
  obtain ⟨p3, a3, ka3, f3, -, g3, q3, r3⟩ := arrayOverA_spec (hts _ (List.mem_append_right _ (List.mem_append_left _ (List.mem_of_getElem? (i := 112) rfl))))
  refine ⟨(fun k => match k with | 0 => c0 | 1 => c1 | 2 => c2 | 3 => c3 | 4 => c4 | 5 => c5 | 6 => c6 | _ => c7, fun k => match k with | 0 => i0 | 1 => i1 | 2 => i2 | 3 => i3 | 4 => i4 | 5 => i5 | 6 => i6 | _ => i7), fun k => match k with | 0 => a0 | 1 => a1 | 2 => a2 | _ => a3, fun k q hq => ?_, fun k q hq => ?_⟩
  · match k, hq with
    | 0, hq => cases hq; exact h0
    | 1, hq => cases hq; exact h1
    | 2, hq => cases hq; exact h2
    | 3, hq => cases hq; exact h3
    | 4, hq => cases hq; exact h4
    | 5, hq => cases hq; exact h5
    | 6, hq => cases hq; exact h6
    | 7, hq => cases hq; exact h7
    | k + 8, hq => simp [vwCl] at hq
  · match k, hq with
    | 0, hq => cases hq; exact ⟨fun n z => ⟨(fun k h => by cases h), ka0, g0, p0, q0⟩, f0⟩
    | 1, hq => cases hq; exact ⟨fun n z => ⟨(fun k h => by cases h), ka1, g1, p1, q1⟩, f1⟩
    | 2, hq => cases hq; exact ⟨fun n z => ⟨(fun k h => by cases h), ka2, g2, p2, q2⟩, ka2, p2, g2, q2, f2, r2⟩
    | 3, hq => cases hq; exact ⟨fun n z => ⟨(fun k h => by cases h), ka3, g3, p3, q3⟩, r3⟩
    | k + 4, hq => simp [tysV] at hq
theorem k_AO {s : State} {b : Nat} (hts : ∀ w ∈ lw_tbl, w.before #[Value.ref b] s = true) : va_AO RX1 s := va_AO.of (hts _ (List.mem_append_right _ (List.mem_append_left _ (List.mem_of_getElem? (i := 92) rfl))))
theorem k_AOA {s : State} {b : Nat} (hts : ∀ w ∈ lw_tbl, w.before #[Value.ref b] s = true) : va_AOA .int s := va_AOA.of (hts _ (List.mem_append_right _ (List.mem_append_left _ (List.mem_of_getElem? (i := 112) rfl))))

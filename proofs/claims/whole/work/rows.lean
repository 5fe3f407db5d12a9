section
-- ===== PART A: goes FIRST, ahead of the names: the tables' words, and 'selects' of the private methods out of them =====
/-- a private method of a class that the tables say can be made, by its rows of tables_1 -/
def lw_okq (q : MethodName × Nat) : Prop := (q.1.cls ≠ "java/lang/invoke/MethodHandle" ∧ q.1.cls ≠ "java/lang/invoke/VarHandle") ∧ Cond.instantiable q.1.cls q.2 ∈ tables_1 ∧ Cond.privateMethod q.1 ∈ tables_1 ∧ Cond.instanceMethod q.1 ∈ tables_1
theorem lw_p0 : lw_okq (⟨"RoomBorn$Told", "tellNothing", "()V"⟩, 8) := ⟨⟨by decide +kernel, by decide +kernel⟩, List.mem_of_getElem? (i := 148) (by decide +kernel), List.mem_of_getElem? (i := 154) (by decide +kernel), List.mem_of_getElem? (i := 155) (by decide +kernel)⟩
theorem lw_p1 : lw_okq (⟨"RoomBorn$Moment", "begin", "(LRoomBorn$Told;)V"⟩, 6) := ⟨⟨by decide +kernel, by decide +kernel⟩, List.mem_of_getElem? (i := 55) (by decide +kernel), List.mem_of_getElem? (i := 202) (by decide +kernel), List.mem_of_getElem? (i := 203) (by decide +kernel)⟩
theorem lw_p2 : lw_okq (⟨"RoomBorn$Text", "add", "(I)V"⟩, 8) := ⟨⟨by decide +kernel, by decide +kernel⟩, List.mem_of_getElem? (i := 21) (by decide +kernel), List.mem_of_getElem? (i := 244) (by decide +kernel), List.mem_of_getElem? (i := 245) (by decide +kernel)⟩
theorem lw_p3 : lw_okq (⟨"RoomBorn$Text", "reads", "(LRoomBorn$Told;)Z"⟩, 8) := ⟨⟨by decide +kernel, by decide +kernel⟩, List.mem_of_getElem? (i := 21) (by decide +kernel), List.mem_of_getElem? (i := 256) (by decide +kernel), List.mem_of_getElem? (i := 257) (by decide +kernel)⟩
theorem lw_p4 : lw_okq (⟨"RoomBorn$Text", "readToken", "()V"⟩, 8) := ⟨⟨by decide +kernel, by decide +kernel⟩, List.mem_of_getElem? (i := 21) (by decide +kernel), List.mem_of_getElem? (i := 261) (by decide +kernel), List.mem_of_getElem? (i := 262) (by decide +kernel)⟩
theorem lw_p5 : lw_okq (⟨"RoomBorn$Text", "readDigits", "()V"⟩, 8) := ⟨⟨by decide +kernel, by decide +kernel⟩, List.mem_of_getElem? (i := 21) (by decide +kernel), List.mem_of_getElem? (i := 268) (by decide +kernel), List.mem_of_getElem? (i := 269) (by decide +kernel)⟩
theorem lw_p6 : lw_okq (⟨"RoomBorn$Text", "readsItem", "(LRoomBorn$Told;)Z"⟩, 8) := ⟨⟨by decide +kernel, by decide +kernel⟩, List.mem_of_getElem? (i := 21) (by decide +kernel), List.mem_of_getElem? (i := 275) (by decide +kernel), List.mem_of_getElem? (i := 276) (by decide +kernel)⟩
theorem lw_p7 : lw_okq (⟨"RoomBorn$Text", "readsRoom", "(LRoomBorn$Told;)Z"⟩, 8) := ⟨⟨by decide +kernel, by decide +kernel⟩, List.mem_of_getElem? (i := 21) (by decide +kernel), List.mem_of_getElem? (i := 279) (by decide +kernel), List.mem_of_getElem? (i := 280) (by decide +kernel)⟩
theorem lw_p8 : lw_okq (⟨"RoomBorn$Text", "readsNumber", "(II)Z"⟩, 8) := ⟨⟨by decide +kernel, by decide +kernel⟩, List.mem_of_getElem? (i := 21) (by decide +kernel), List.mem_of_getElem? (i := 283) (by decide +kernel), List.mem_of_getElem? (i := 284) (by decide +kernel)⟩
theorem lw_p9 : lw_okq (⟨"RoomBorn$Text", "readsWork", "(LRoomBorn$Told;)Z"⟩, 8) := ⟨⟨by decide +kernel, by decide +kernel⟩, List.mem_of_getElem? (i := 21) (by decide +kernel), List.mem_of_getElem? (i := 287) (by decide +kernel), List.mem_of_getElem? (i := 288) (by decide +kernel)⟩
theorem lw_p10 : lw_okq (⟨"RoomBorn$Text", "readsMothers", "(LRoomBorn$Told;)Z"⟩, 8) := ⟨⟨by decide +kernel, by decide +kernel⟩, List.mem_of_getElem? (i := 21) (by decide +kernel), List.mem_of_getElem? (i := 291) (by decide +kernel), List.mem_of_getElem? (i := 292) (by decide +kernel)⟩
theorem lw_p11 : lw_okq (⟨"RoomBorn$Text", "readsLife", "(LRoomBorn$Told;)Z"⟩, 8) := ⟨⟨by decide +kernel, by decide +kernel⟩, List.mem_of_getElem? (i := 21) (by decide +kernel), List.mem_of_getElem? (i := 295) (by decide +kernel), List.mem_of_getElem? (i := 296) (by decide +kernel)⟩
theorem lw_p12 : lw_okq (⟨"RoomBorn$Text", "readsItemEnd", "()Z"⟩, 8) := ⟨⟨by decide +kernel, by decide +kernel⟩, List.mem_of_getElem? (i := 21) (by decide +kernel), List.mem_of_getElem? (i := 299) (by decide +kernel), List.mem_of_getElem? (i := 300) (by decide +kernel)⟩
theorem lw_p13 : lw_okq (⟨"RoomBorn", "beginAnew", "()V"⟩, 10) := ⟨⟨by decide +kernel, by decide +kernel⟩, List.mem_of_getElem? (i := 13) (by decide +kernel), List.mem_of_getElem? (i := 303) (by decide +kernel), List.mem_of_getElem? (i := 304) (by decide +kernel)⟩
theorem lw_p14 : lw_okq (⟨"RoomBorn", "isRoom", "(I)Z"⟩, 10) := ⟨⟨by decide +kernel, by decide +kernel⟩, List.mem_of_getElem? (i := 13) (by decide +kernel), List.mem_of_getElem? (i := 311) (by decide +kernel), List.mem_of_getElem? (i := 312) (by decide +kernel)⟩
theorem lw_p15 : lw_okq (⟨"RoomBorn$Moment", "ageOfRoom", "(I)I"⟩, 6) := ⟨⟨by decide +kernel, by decide +kernel⟩, List.mem_of_getElem? (i := 55) (by decide +kernel), List.mem_of_getElem? (i := 315) (by decide +kernel), List.mem_of_getElem? (i := 316) (by decide +kernel)⟩
def lw_privs_1 : List (MethodName × Nat) := [(⟨"RoomBorn$Told", "tellNothing", "()V"⟩, 8), (⟨"RoomBorn$Moment", "begin", "(LRoomBorn$Told;)V"⟩, 6), (⟨"RoomBorn$Text", "add", "(I)V"⟩, 8), (⟨"RoomBorn$Text", "reads", "(LRoomBorn$Told;)Z"⟩, 8), (⟨"RoomBorn$Text", "readToken", "()V"⟩, 8), (⟨"RoomBorn$Text", "readDigits", "()V"⟩, 8), (⟨"RoomBorn$Text", "readsItem", "(LRoomBorn$Told;)Z"⟩, 8), (⟨"RoomBorn$Text", "readsRoom", "(LRoomBorn$Told;)Z"⟩, 8), (⟨"RoomBorn$Text", "readsNumber", "(II)Z"⟩, 8), (⟨"RoomBorn$Text", "readsWork", "(LRoomBorn$Told;)Z"⟩, 8), (⟨"RoomBorn$Text", "readsMothers", "(LRoomBorn$Told;)Z"⟩, 8), (⟨"RoomBorn$Text", "readsLife", "(LRoomBorn$Told;)Z"⟩, 8), (⟨"RoomBorn$Text", "readsItemEnd", "()Z"⟩, 8), (⟨"RoomBorn", "beginAnew", "()V"⟩, 10), (⟨"RoomBorn", "isRoom", "(I)Z"⟩, 10), (⟨"RoomBorn$Moment", "ageOfRoom", "(I)I"⟩, 6)]
theorem lw_r1 : ∀ q ∈ lw_privs_1, lw_okq q := List.forall_mem_cons.mpr ⟨lw_p0, List.forall_mem_cons.mpr ⟨lw_p1, List.forall_mem_cons.mpr ⟨lw_p2, List.forall_mem_cons.mpr ⟨lw_p3, List.forall_mem_cons.mpr ⟨lw_p4, List.forall_mem_cons.mpr ⟨lw_p5, List.forall_mem_cons.mpr ⟨lw_p6, List.forall_mem_cons.mpr ⟨lw_p7, List.forall_mem_cons.mpr ⟨lw_p8, List.forall_mem_cons.mpr ⟨lw_p9, List.forall_mem_cons.mpr ⟨lw_p10, List.forall_mem_cons.mpr ⟨lw_p11, List.forall_mem_cons.mpr ⟨lw_p12, List.forall_mem_cons.mpr ⟨lw_p13, List.forall_mem_cons.mpr ⟨lw_p14, List.forall_mem_cons.mpr ⟨lw_p15, fun _ h => absurd h List.not_mem_nil⟩⟩⟩⟩⟩⟩⟩⟩⟩⟩⟩⟩⟩⟩⟩⟩
theorem lw_p16 : lw_okq (⟨"RoomBorn$Moment", "ageTogether", "(I)I"⟩, 6) := ⟨⟨by decide +kernel, by decide +kernel⟩, List.mem_of_getElem? (i := 55) (by decide +kernel), List.mem_of_getElem? (i := 319) (by decide +kernel), List.mem_of_getElem? (i := 320) (by decide +kernel)⟩
theorem lw_p17 : lw_okq (⟨"RoomBorn", "isMother", "(I)Z"⟩, 10) := ⟨⟨by decide +kernel, by decide +kernel⟩, List.mem_of_getElem? (i := 13) (by decide +kernel), List.mem_of_getElem? (i := 331) (by decide +kernel), List.mem_of_getElem? (i := 332) (by decide +kernel)⟩
theorem lw_p18 : lw_okq (⟨"RoomBorn", "worksOfChild", "(I)I"⟩, 10) := ⟨⟨by decide +kernel, by decide +kernel⟩, List.mem_of_getElem? (i := 13) (by decide +kernel), List.mem_of_getElem? (i := 336) (by decide +kernel), List.mem_of_getElem? (i := 337) (by decide +kernel)⟩
theorem lw_p19 : lw_okq (⟨"RoomBorn$Told", "worksAt", "(I)I"⟩, 8) := ⟨⟨by decide +kernel, by decide +kernel⟩, List.mem_of_getElem? (i := 148) (by decide +kernel), List.mem_of_getElem? (i := 340) (by decide +kernel), List.mem_of_getElem? (i := 341) (by decide +kernel)⟩
theorem lw_p20 : lw_okq (⟨"RoomBorn$Told", "does", "(II)Z"⟩, 8) := ⟨⟨by decide +kernel, by decide +kernel⟩, List.mem_of_getElem? (i := 148) (by decide +kernel), List.mem_of_getElem? (i := 344) (by decide +kernel), List.mem_of_getElem? (i := 345) (by decide +kernel)⟩
theorem lw_p21 : lw_okq (⟨"RoomBorn$Told", "spans", "(II)Z"⟩, 8) := ⟨⟨by decide +kernel, by decide +kernel⟩, List.mem_of_getElem? (i := 148) (by decide +kernel), List.mem_of_getElem? (i := 348) (by decide +kernel), List.mem_of_getElem? (i := 349) (by decide +kernel)⟩
theorem lw_p22 : lw_okq (⟨"RoomBorn", "isWork", "(I)Z"⟩, 10) := ⟨⟨by decide +kernel, by decide +kernel⟩, List.mem_of_getElem? (i := 13) (by decide +kernel), List.mem_of_getElem? (i := 357) (by decide +kernel), List.mem_of_getElem? (i := 358) (by decide +kernel)⟩
theorem lw_p23 : lw_okq (⟨"RoomBorn", "whoCanDo", "(II)I"⟩, 10) := ⟨⟨by decide +kernel, by decide +kernel⟩, List.mem_of_getElem? (i := 13) (by decide +kernel), List.mem_of_getElem? (i := 361) (by decide +kernel), List.mem_of_getElem? (i := 362) (by decide +kernel)⟩
theorem lw_p24 : lw_okq (⟨"RoomBorn", "yearsUntilNobody", "(I)I"⟩, 10) := ⟨⟨by decide +kernel, by decide +kernel⟩, List.mem_of_getElem? (i := 13) (by decide +kernel), List.mem_of_getElem? (i := 366) (by decide +kernel), List.mem_of_getElem? (i := 367) (by decide +kernel)⟩
theorem lw_p25 : lw_okq (⟨"RoomBorn", "mostFilled", "()I"⟩, 10) := ⟨⟨by decide +kernel, by decide +kernel⟩, List.mem_of_getElem? (i := 13) (by decide +kernel), List.mem_of_getElem? (i := 374) (by decide +kernel), List.mem_of_getElem? (i := 375) (by decide +kernel)⟩
theorem lw_p26 : lw_okq (⟨"RoomBorn", "tellFilling", "()V"⟩, 10) := ⟨⟨by decide +kernel, by decide +kernel⟩, List.mem_of_getElem? (i := 13) (by decide +kernel), List.mem_of_getElem? (i := 378) (by decide +kernel), List.mem_of_getElem? (i := 379) (by decide +kernel)⟩
theorem lw_p27 : lw_okq (⟨"RoomBorn$Filling", "solve", "()I"⟩, 4) := ⟨⟨by decide +kernel, by decide +kernel⟩, List.mem_of_getElem? (i := 106) (by decide +kernel), List.mem_of_getElem? (i := 382) (by decide +kernel), List.mem_of_getElem? (i := 383) (by decide +kernel)⟩
theorem lw_p28 : lw_okq (⟨"RoomBorn$Filling", "mostFrom", "(II)I"⟩, 4) := ⟨⟨by decide +kernel, by decide +kernel⟩, List.mem_of_getElem? (i := 106) (by decide +kernel), List.mem_of_getElem? (i := 387) (by decide +kernel), List.mem_of_getElem? (i := 388) (by decide +kernel)⟩
theorem lw_p29 : lw_okq (⟨"RoomBorn$Filling", "isFree", "(III)Z"⟩, 4) := ⟨⟨by decide +kernel, by decide +kernel⟩, List.mem_of_getElem? (i := 106) (by decide +kernel), List.mem_of_getElem? (i := 391) (by decide +kernel), List.mem_of_getElem? (i := 392) (by decide +kernel)⟩
theorem lw_p30 : lw_okq (⟨"RoomBorn$Past", "remember", "(LRoomBorn$Moment;)V"⟩, 3) := ⟨⟨by decide +kernel, by decide +kernel⟩, List.mem_of_getElem? (i := 86) (by decide +kernel), List.mem_of_getElem? (i := 403) (by decide +kernel), List.mem_of_getElem? (i := 404) (by decide +kernel)⟩
theorem lw_p31 : lw_okq (⟨"RoomBorn$Moment", "become", "(LRoomBorn$Moment;)V"⟩, 6) := ⟨⟨by decide +kernel, by decide +kernel⟩, List.mem_of_getElem? (i := 55) (by decide +kernel), List.mem_of_getElem? (i := 407) (by decide +kernel), List.mem_of_getElem? (i := 408) (by decide +kernel)⟩
def lw_privs_2 : List (MethodName × Nat) := [(⟨"RoomBorn$Moment", "ageTogether", "(I)I"⟩, 6), (⟨"RoomBorn", "isMother", "(I)Z"⟩, 10), (⟨"RoomBorn", "worksOfChild", "(I)I"⟩, 10), (⟨"RoomBorn$Told", "worksAt", "(I)I"⟩, 8), (⟨"RoomBorn$Told", "does", "(II)Z"⟩, 8), (⟨"RoomBorn$Told", "spans", "(II)Z"⟩, 8), (⟨"RoomBorn", "isWork", "(I)Z"⟩, 10), (⟨"RoomBorn", "whoCanDo", "(II)I"⟩, 10), (⟨"RoomBorn", "yearsUntilNobody", "(I)I"⟩, 10), (⟨"RoomBorn", "mostFilled", "()I"⟩, 10), (⟨"RoomBorn", "tellFilling", "()V"⟩, 10), (⟨"RoomBorn$Filling", "solve", "()I"⟩, 4), (⟨"RoomBorn$Filling", "mostFrom", "(II)I"⟩, 4), (⟨"RoomBorn$Filling", "isFree", "(III)Z"⟩, 4), (⟨"RoomBorn$Past", "remember", "(LRoomBorn$Moment;)V"⟩, 3), (⟨"RoomBorn$Moment", "become", "(LRoomBorn$Moment;)V"⟩, 6)]
theorem lw_r2 : ∀ q ∈ lw_privs_2, lw_okq q := List.forall_mem_cons.mpr ⟨lw_p16, List.forall_mem_cons.mpr ⟨lw_p17, List.forall_mem_cons.mpr ⟨lw_p18, List.forall_mem_cons.mpr ⟨lw_p19, List.forall_mem_cons.mpr ⟨lw_p20, List.forall_mem_cons.mpr ⟨lw_p21, List.forall_mem_cons.mpr ⟨lw_p22, List.forall_mem_cons.mpr ⟨lw_p23, List.forall_mem_cons.mpr ⟨lw_p24, List.forall_mem_cons.mpr ⟨lw_p25, List.forall_mem_cons.mpr ⟨lw_p26, List.forall_mem_cons.mpr ⟨lw_p27, List.forall_mem_cons.mpr ⟨lw_p28, List.forall_mem_cons.mpr ⟨lw_p29, List.forall_mem_cons.mpr ⟨lw_p30, List.forall_mem_cons.mpr ⟨lw_p31, fun _ h => absurd h List.not_mem_nil⟩⟩⟩⟩⟩⟩⟩⟩⟩⟩⟩⟩⟩⟩⟩⟩
theorem lw_p32 : lw_okq (⟨"RoomBorn$Moment", "bear", "(III)I"⟩, 6) := ⟨⟨by decide +kernel, by decide +kernel⟩, List.mem_of_getElem? (i := 55) (by decide +kernel), List.mem_of_getElem? (i := 415) (by decide +kernel), List.mem_of_getElem? (i := 416) (by decide +kernel)⟩
theorem lw_p33 : lw_okq (⟨"RoomBorn$Moment", "passYear", "(LRoomBorn$Told;)I"⟩, 6) := ⟨⟨by decide +kernel, by decide +kernel⟩, List.mem_of_getElem? (i := 55) (by decide +kernel), List.mem_of_getElem? (i := 424) (by decide +kernel), List.mem_of_getElem? (i := 425) (by decide +kernel)⟩
theorem lw_p34 : lw_okq (⟨"RoomBorn$Moment", "knockThrough", "(II)V"⟩, 6) := ⟨⟨by decide +kernel, by decide +kernel⟩, List.mem_of_getElem? (i := 55) (by decide +kernel), List.mem_of_getElem? (i := 432) (by decide +kernel), List.mem_of_getElem? (i := 433) (by decide +kernel)⟩
theorem lw_p35 : lw_okq (⟨"RoomBorn$Moment", "buildAnew", "(I)V"⟩, 6) := ⟨⟨by decide +kernel, by decide +kernel⟩, List.mem_of_getElem? (i := 55) (by decide +kernel), List.mem_of_getElem? (i := 440) (by decide +kernel), List.mem_of_getElem? (i := 441) (by decide +kernel)⟩
theorem lw_p36 : lw_okq (⟨"RoomBorn$Past", "restore", "(LRoomBorn$Moment;)V"⟩, 3) := ⟨⟨by decide +kernel, by decide +kernel⟩, List.mem_of_getElem? (i := 86) (by decide +kernel), List.mem_of_getElem? (i := 448) (by decide +kernel), List.mem_of_getElem? (i := 449) (by decide +kernel)⟩
theorem lw_p37 : lw_okq (⟨"RoomBorn$Filling", "workOf", "(I)I"⟩, 4) := ⟨⟨by decide +kernel, by decide +kernel⟩, List.mem_of_getElem? (i := 106) (by decide +kernel), List.mem_of_getElem? (i := 456) (by decide +kernel), List.mem_of_getElem? (i := 457) (by decide +kernel)⟩
theorem lw_p38 : lw_okq (⟨"RoomBorn$Filling", "firstWork", "(II)I"⟩, 4) := ⟨⟨by decide +kernel, by decide +kernel⟩, List.mem_of_getElem? (i := 106) (by decide +kernel), List.mem_of_getElem? (i := 460) (by decide +kernel), List.mem_of_getElem? (i := 461) (by decide +kernel)⟩
theorem lw_p39 : lw_okq (⟨"RoomBorn$Moment", "howManyAheadOf", "(I)I"⟩, 6) := ⟨⟨by decide +kernel, by decide +kernel⟩, List.mem_of_getElem? (i := 55) (by decide +kernel), List.mem_of_getElem? (i := 483) (by decide +kernel), List.mem_of_getElem? (i := 484) (by decide +kernel)⟩
theorem lw_p40 : lw_okq (⟨"RoomBorn", "roomsToDo", "(I)I"⟩, 10) := ⟨⟨by decide +kernel, by decide +kernel⟩, List.mem_of_getElem? (i := 13) (by decide +kernel), List.mem_of_getElem? (i := 494) (by decide +kernel), List.mem_of_getElem? (i := 495) (by decide +kernel)⟩
theorem lw_p41 : lw_okq (⟨"RoomBorn$Seen", "add", "(IZ)V"⟩, 3) := ⟨⟨by decide +kernel, by decide +kernel⟩, List.mem_of_getElem? (i := 131) (by decide +kernel), List.mem_of_getElem? (i := 505) (by decide +kernel), List.mem_of_getElem? (i := 506) (by decide +kernel)⟩
theorem lw_p42 : lw_okq (⟨"RoomBorn", "possibleAges", "()I"⟩, 10) := ⟨⟨by decide +kernel, by decide +kernel⟩, List.mem_of_getElem? (i := 13) (by decide +kernel), List.mem_of_getElem? (i := 517) (by decide +kernel), List.mem_of_getElem? (i := 518) (by decide +kernel)⟩
theorem lw_p43 : lw_okq (⟨"RoomBorn$Seen", "allows", "(LRoomBorn$Told;I)Z"⟩, 3) := ⟨⟨by decide +kernel, by decide +kernel⟩, List.mem_of_getElem? (i := 131) (by decide +kernel), List.mem_of_getElem? (i := 521) (by decide +kernel), List.mem_of_getElem? (i := 522) (by decide +kernel)⟩
theorem lw_p44 : lw_okq (⟨"RoomBorn", "leastAge", "()I"⟩, 10) := ⟨⟨by decide +kernel, by decide +kernel⟩, List.mem_of_getElem? (i := 13) (by decide +kernel), List.mem_of_getElem? (i := 526) (by decide +kernel), List.mem_of_getElem? (i := 527) (by decide +kernel)⟩
theorem lw_p45 : lw_okq (⟨"RoomBorn", "greatestAge", "()I"⟩, 10) := ⟨⟨by decide +kernel, by decide +kernel⟩, List.mem_of_getElem? (i := 13) (by decide +kernel), List.mem_of_getElem? (i := 530) (by decide +kernel), List.mem_of_getElem? (i := 531) (by decide +kernel)⟩
theorem lw_p46 : lw_okq (⟨"RoomBorn", "possibleAgesAtWork", "(I)I"⟩, 10) := ⟨⟨by decide +kernel, by decide +kernel⟩, List.mem_of_getElem? (i := 13) (by decide +kernel), List.mem_of_getElem? (i := 538) (by decide +kernel), List.mem_of_getElem? (i := 539) (by decide +kernel)⟩
theorem lw_p47 : lw_okq (⟨"RoomBorn", "rateAttic", "(I)I"⟩, 10) := ⟨⟨by decide +kernel, by decide +kernel⟩, List.mem_of_getElem? (i := 13) (by decide +kernel), List.mem_of_getElem? (i := 549) (by decide +kernel), List.mem_of_getElem? (i := 550) (by decide +kernel)⟩
def lw_privs_3 : List (MethodName × Nat) := [(⟨"RoomBorn$Moment", "bear", "(III)I"⟩, 6), (⟨"RoomBorn$Moment", "passYear", "(LRoomBorn$Told;)I"⟩, 6), (⟨"RoomBorn$Moment", "knockThrough", "(II)V"⟩, 6), (⟨"RoomBorn$Moment", "buildAnew", "(I)V"⟩, 6), (⟨"RoomBorn$Past", "restore", "(LRoomBorn$Moment;)V"⟩, 3), (⟨"RoomBorn$Filling", "workOf", "(I)I"⟩, 4), (⟨"RoomBorn$Filling", "firstWork", "(II)I"⟩, 4), (⟨"RoomBorn$Moment", "howManyAheadOf", "(I)I"⟩, 6), (⟨"RoomBorn", "roomsToDo", "(I)I"⟩, 10), (⟨"RoomBorn$Seen", "add", "(IZ)V"⟩, 3), (⟨"RoomBorn", "possibleAges", "()I"⟩, 10), (⟨"RoomBorn$Seen", "allows", "(LRoomBorn$Told;I)Z"⟩, 3), (⟨"RoomBorn", "leastAge", "()I"⟩, 10), (⟨"RoomBorn", "greatestAge", "()I"⟩, 10), (⟨"RoomBorn", "possibleAgesAtWork", "(I)I"⟩, 10), (⟨"RoomBorn", "rateAttic", "(I)I"⟩, 10)]
theorem lw_r3 : ∀ q ∈ lw_privs_3, lw_okq q := List.forall_mem_cons.mpr ⟨lw_p32, List.forall_mem_cons.mpr ⟨lw_p33, List.forall_mem_cons.mpr ⟨lw_p34, List.forall_mem_cons.mpr ⟨lw_p35, List.forall_mem_cons.mpr ⟨lw_p36, List.forall_mem_cons.mpr ⟨lw_p37, List.forall_mem_cons.mpr ⟨lw_p38, List.forall_mem_cons.mpr ⟨lw_p39, List.forall_mem_cons.mpr ⟨lw_p40, List.forall_mem_cons.mpr ⟨lw_p41, List.forall_mem_cons.mpr ⟨lw_p42, List.forall_mem_cons.mpr ⟨lw_p43, List.forall_mem_cons.mpr ⟨lw_p44, List.forall_mem_cons.mpr ⟨lw_p45, List.forall_mem_cons.mpr ⟨lw_p46, List.forall_mem_cons.mpr ⟨lw_p47, fun _ h => absurd h List.not_mem_nil⟩⟩⟩⟩⟩⟩⟩⟩⟩⟩⟩⟩⟩⟩⟩⟩
theorem lw_p48 : lw_okq (⟨"RoomBorn", "rateChild", "(I)I"⟩, 10) := ⟨⟨by decide +kernel, by decide +kernel⟩, List.mem_of_getElem? (i := 13) (by decide +kernel), List.mem_of_getElem? (i := 554) (by decide +kernel), List.mem_of_getElem? (i := 555) (by decide +kernel)⟩
theorem lw_p49 : lw_okq (⟨"RoomBorn", "rateCellar", "(I)I"⟩, 10) := ⟨⟨by decide +kernel, by decide +kernel⟩, List.mem_of_getElem? (i := 13) (by decide +kernel), List.mem_of_getElem? (i := 558) (by decide +kernel), List.mem_of_getElem? (i := 559) (by decide +kernel)⟩
theorem lw_p50 : lw_okq (⟨"RoomBorn", "rateGable", "(I)I"⟩, 10) := ⟨⟨by decide +kernel, by decide +kernel⟩, List.mem_of_getElem? (i := 13) (by decide +kernel), List.mem_of_getElem? (i := 563) (by decide +kernel), List.mem_of_getElem? (i := 564) (by decide +kernel)⟩
theorem lw_p51 : lw_okq (⟨"RoomBorn", "rateCrypt", "(I)I"⟩, 10) := ⟨⟨by decide +kernel, by decide +kernel⟩, List.mem_of_getElem? (i := 13) (by decide +kernel), List.mem_of_getElem? (i := 568) (by decide +kernel), List.mem_of_getElem? (i := 569) (by decide +kernel)⟩
theorem lw_p52 : lw_okq (⟨"RoomBorn", "rateCart", "(I)I"⟩, 10) := ⟨⟨by decide +kernel, by decide +kernel⟩, List.mem_of_getElem? (i := 13) (by decide +kernel), List.mem_of_getElem? (i := 573) (by decide +kernel), List.mem_of_getElem? (i := 574) (by decide +kernel)⟩
theorem lw_p53 : lw_okq (⟨"RoomBornModel", "begins", "()V"⟩, 25) := ⟨⟨by decide +kernel, by decide +kernel⟩, List.mem_of_getElem? (i := 598) (by decide +kernel), List.mem_of_getElem? (i := 604) (by decide +kernel), List.mem_of_getElem? (i := 605) (by decide +kernel)⟩
theorem lw_p54 : lw_okq (⟨"RoomBornModel", "settles", "()V"⟩, 25) := ⟨⟨by decide +kernel, by decide +kernel⟩, List.mem_of_getElem? (i := 598) (by decide +kernel), List.mem_of_getElem? (i := 608) (by decide +kernel), List.mem_of_getElem? (i := 609) (by decide +kernel)⟩
theorem lw_p55 : lw_okq (⟨"RoomBornModel", "advances", "()V"⟩, 25) := ⟨⟨by decide +kernel, by decide +kernel⟩, List.mem_of_getElem? (i := 598) (by decide +kernel), List.mem_of_getElem? (i := 703) (by decide +kernel), List.mem_of_getElem? (i := 704) (by decide +kernel)⟩
theorem lw_p56 : lw_okq (⟨"RoomBornModel", "letterAt", "(I)I"⟩, 25) := ⟨⟨by decide +kernel, by decide +kernel⟩, List.mem_of_getElem? (i := 598) (by decide +kernel), List.mem_of_getElem? (i := 707) (by decide +kernel), List.mem_of_getElem? (i := 708) (by decide +kernel)⟩
theorem lw_p57 : lw_okq (⟨"RoomBornModel", "isWell", "()Z"⟩, 25) := ⟨⟨by decide +kernel, by decide +kernel⟩, List.mem_of_getElem? (i := 598) (by decide +kernel), List.mem_of_getElem? (i := 714) (by decide +kernel), List.mem_of_getElem? (i := 715) (by decide +kernel)⟩
theorem lw_p58 : lw_okq (⟨"RoomBornModel", "mayBegin", "()Z"⟩, 25) := ⟨⟨by decide +kernel, by decide +kernel⟩, List.mem_of_getElem? (i := 598) (by decide +kernel), List.mem_of_getElem? (i := 718) (by decide +kernel), List.mem_of_getElem? (i := 719) (by decide +kernel)⟩
theorem lw_p59 : lw_okq (⟨"RoomBornModel", "takes", "(Z)I"⟩, 25) := ⟨⟨by decide +kernel, by decide +kernel⟩, List.mem_of_getElem? (i := 598) (by decide +kernel), List.mem_of_getElem? (i := 722) (by decide +kernel), List.mem_of_getElem? (i := 723) (by decide +kernel)⟩
theorem lw_p60 : lw_okq (⟨"RoomBornModel", "readsItem", "(I)V"⟩, 25) := ⟨⟨by decide +kernel, by decide +kernel⟩, List.mem_of_getElem? (i := 598) (by decide +kernel), List.mem_of_getElem? (i := 726) (by decide +kernel), List.mem_of_getElem? (i := 727) (by decide +kernel)⟩
theorem lw_p61 : lw_okq (⟨"RoomBornModel", "number", "(II)I"⟩, 25) := ⟨⟨by decide +kernel, by decide +kernel⟩, List.mem_of_getElem? (i := 598) (by decide +kernel), List.mem_of_getElem? (i := 730) (by decide +kernel), List.mem_of_getElem? (i := 731) (by decide +kernel)⟩
theorem lw_p62 : lw_okq (⟨"RoomBornModel", "isRoom", "(I)Z"⟩, 25) := ⟨⟨by decide +kernel, by decide +kernel⟩, List.mem_of_getElem? (i := 598) (by decide +kernel), List.mem_of_getElem? (i := 738) (by decide +kernel), List.mem_of_getElem? (i := 739) (by decide +kernel)⟩
theorem lw_p63 : lw_okq (⟨"RoomBornModel", "ageOf", "(I)I"⟩, 25) := ⟨⟨by decide +kernel, by decide +kernel⟩, List.mem_of_getElem? (i := 598) (by decide +kernel), List.mem_of_getElem? (i := 742) (by decide +kernel), List.mem_of_getElem? (i := 743) (by decide +kernel)⟩
def lw_privs_4 : List (MethodName × Nat) := [(⟨"RoomBorn", "rateChild", "(I)I"⟩, 10), (⟨"RoomBorn", "rateCellar", "(I)I"⟩, 10), (⟨"RoomBorn", "rateGable", "(I)I"⟩, 10), (⟨"RoomBorn", "rateCrypt", "(I)I"⟩, 10), (⟨"RoomBorn", "rateCart", "(I)I"⟩, 10), (⟨"RoomBornModel", "begins", "()V"⟩, 25), (⟨"RoomBornModel", "settles", "()V"⟩, 25), (⟨"RoomBornModel", "advances", "()V"⟩, 25), (⟨"RoomBornModel", "letterAt", "(I)I"⟩, 25), (⟨"RoomBornModel", "isWell", "()Z"⟩, 25), (⟨"RoomBornModel", "mayBegin", "()Z"⟩, 25), (⟨"RoomBornModel", "takes", "(Z)I"⟩, 25), (⟨"RoomBornModel", "readsItem", "(I)V"⟩, 25), (⟨"RoomBornModel", "number", "(II)I"⟩, 25), (⟨"RoomBornModel", "isRoom", "(I)Z"⟩, 25), (⟨"RoomBornModel", "ageOf", "(I)I"⟩, 25)]
theorem lw_r4 : ∀ q ∈ lw_privs_4, lw_okq q := List.forall_mem_cons.mpr ⟨lw_p48, List.forall_mem_cons.mpr ⟨lw_p49, List.forall_mem_cons.mpr ⟨lw_p50, List.forall_mem_cons.mpr ⟨lw_p51, List.forall_mem_cons.mpr ⟨lw_p52, List.forall_mem_cons.mpr ⟨lw_p53, List.forall_mem_cons.mpr ⟨lw_p54, List.forall_mem_cons.mpr ⟨lw_p55, List.forall_mem_cons.mpr ⟨lw_p56, List.forall_mem_cons.mpr ⟨lw_p57, List.forall_mem_cons.mpr ⟨lw_p58, List.forall_mem_cons.mpr ⟨lw_p59, List.forall_mem_cons.mpr ⟨lw_p60, List.forall_mem_cons.mpr ⟨lw_p61, List.forall_mem_cons.mpr ⟨lw_p62, List.forall_mem_cons.mpr ⟨lw_p63, fun _ h => absurd h List.not_mem_nil⟩⟩⟩⟩⟩⟩⟩⟩⟩⟩⟩⟩⟩⟩⟩⟩
theorem lw_p64 : lw_okq (⟨"RoomBornModel", "joinedWith", "(I)I"⟩, 25) := ⟨⟨by decide +kernel, by decide +kernel⟩, List.mem_of_getElem? (i := 598) (by decide +kernel), List.mem_of_getElem? (i := 746) (by decide +kernel), List.mem_of_getElem? (i := 747) (by decide +kernel)⟩
theorem lw_p65 : lw_okq (⟨"RoomBornModel", "ageBy", "(I)I"⟩, 25) := ⟨⟨by decide +kernel, by decide +kernel⟩, List.mem_of_getElem? (i := 598) (by decide +kernel), List.mem_of_getElem? (i := 750) (by decide +kernel), List.mem_of_getElem? (i := 751) (by decide +kernel)⟩
theorem lw_p66 : lw_okq (⟨"RoomBornModel", "isChild", "(I)Z"⟩, 25) := ⟨⟨by decide +kernel, by decide +kernel⟩, List.mem_of_getElem? (i := 598) (by decide +kernel), List.mem_of_getElem? (i := 764) (by decide +kernel), List.mem_of_getElem? (i := 765) (by decide +kernel)⟩
theorem lw_p67 : lw_okq (⟨"RoomBornModel", "worksOf", "(I)I"⟩, 25) := ⟨⟨by decide +kernel, by decide +kernel⟩, List.mem_of_getElem? (i := 598) (by decide +kernel), List.mem_of_getElem? (i := 768) (by decide +kernel), List.mem_of_getElem? (i := 769) (by decide +kernel)⟩
theorem lw_p68 : lw_okq (⟨"RoomBornModel", "worksAt", "(I)I"⟩, 25) := ⟨⟨by decide +kernel, by decide +kernel⟩, List.mem_of_getElem? (i := 598) (by decide +kernel), List.mem_of_getElem? (i := 772) (by decide +kernel), List.mem_of_getElem? (i := 773) (by decide +kernel)⟩
theorem lw_p69 : lw_okq (⟨"RoomBornModel", "isWork", "(I)Z"⟩, 25) := ⟨⟨by decide +kernel, by decide +kernel⟩, List.mem_of_getElem? (i := 598) (by decide +kernel), List.mem_of_getElem? (i := 780) (by decide +kernel), List.mem_of_getElem? (i := 781) (by decide +kernel)⟩
theorem lw_p70 : lw_okq (⟨"RoomBornModel", "whoCan", "(I)I"⟩, 25) := ⟨⟨by decide +kernel, by decide +kernel⟩, List.mem_of_getElem? (i := 598) (by decide +kernel), List.mem_of_getElem? (i := 784) (by decide +kernel), List.mem_of_getElem? (i := 785) (by decide +kernel)⟩
theorem lw_p71 : lw_okq (⟨"RoomBornModel", "lastsOf", "(I)I"⟩, 25) := ⟨⟨by decide +kernel, by decide +kernel⟩, List.mem_of_getElem? (i := 598) (by decide +kernel), List.mem_of_getElem? (i := 788) (by decide +kernel), List.mem_of_getElem? (i := 789) (by decide +kernel)⟩
theorem lw_p72 : lw_okq (⟨"RoomBornModel", "isDoneIn", "(II)Z"⟩, 25) := ⟨⟨by decide +kernel, by decide +kernel⟩, List.mem_of_getElem? (i := 598) (by decide +kernel), List.mem_of_getElem? (i := 792) (by decide +kernel), List.mem_of_getElem? (i := 793) (by decide +kernel)⟩
theorem lw_p73 : lw_okq (⟨"RoomBornModel", "asNow", "()V"⟩, 25) := ⟨⟨by decide +kernel, by decide +kernel⟩, List.mem_of_getElem? (i := 598) (by decide +kernel), List.mem_of_getElem? (i := 800) (by decide +kernel), List.mem_of_getElem? (i := 801) (by decide +kernel)⟩
theorem lw_p74 : lw_okq (⟨"RoomBornModel", "filled", "()I"⟩, 25) := ⟨⟨by decide +kernel, by decide +kernel⟩, List.mem_of_getElem? (i := 598) (by decide +kernel), List.mem_of_getElem? (i := 804) (by decide +kernel), List.mem_of_getElem? (i := 805) (by decide +kernel)⟩
theorem lw_p75 : lw_okq (⟨"RoomBornModel", "sixes", "(I)I"⟩, 25) := ⟨⟨by decide +kernel, by decide +kernel⟩, List.mem_of_getElem? (i := 598) (by decide +kernel), List.mem_of_getElem? (i := 808) (by decide +kernel), List.mem_of_getElem? (i := 809) (by decide +kernel)⟩
theorem lw_p76 : lw_okq (⟨"RoomBornModel", "doing", "(I)I"⟩, 25) := ⟨⟨by decide +kernel, by decide +kernel⟩, List.mem_of_getElem? (i := 598) (by decide +kernel), List.mem_of_getElem? (i := 812) (by decide +kernel), List.mem_of_getElem? (i := 813) (by decide +kernel)⟩
theorem lw_p77 : lw_okq (⟨"RoomBornModel", "notes", "()V"⟩, 25) := ⟨⟨by decide +kernel, by decide +kernel⟩, List.mem_of_getElem? (i := 598) (by decide +kernel), List.mem_of_getElem? (i := 820) (by decide +kernel), List.mem_of_getElem? (i := 821) (by decide +kernel)⟩
theorem lw_p78 : lw_okq (⟨"RoomBornModel", "canBe", "(I)Z"⟩, 25) := ⟨⟨by decide +kernel, by decide +kernel⟩, List.mem_of_getElem? (i := 598) (by decide +kernel), List.mem_of_getElem? (i := 878) (by decide +kernel), List.mem_of_getElem? (i := 879) (by decide +kernel)⟩
def lw_privs_5 : List (MethodName × Nat) := [(⟨"RoomBornModel", "joinedWith", "(I)I"⟩, 25), (⟨"RoomBornModel", "ageBy", "(I)I"⟩, 25), (⟨"RoomBornModel", "isChild", "(I)Z"⟩, 25), (⟨"RoomBornModel", "worksOf", "(I)I"⟩, 25), (⟨"RoomBornModel", "worksAt", "(I)I"⟩, 25), (⟨"RoomBornModel", "isWork", "(I)Z"⟩, 25), (⟨"RoomBornModel", "whoCan", "(I)I"⟩, 25), (⟨"RoomBornModel", "lastsOf", "(I)I"⟩, 25), (⟨"RoomBornModel", "isDoneIn", "(II)Z"⟩, 25), (⟨"RoomBornModel", "asNow", "()V"⟩, 25), (⟨"RoomBornModel", "filled", "()I"⟩, 25), (⟨"RoomBornModel", "sixes", "(I)I"⟩, 25), (⟨"RoomBornModel", "doing", "(I)I"⟩, 25), (⟨"RoomBornModel", "notes", "()V"⟩, 25), (⟨"RoomBornModel", "canBe", "(I)Z"⟩, 25)]
theorem lw_r5 : ∀ q ∈ lw_privs_5, lw_okq q := List.forall_mem_cons.mpr ⟨lw_p64, List.forall_mem_cons.mpr ⟨lw_p65, List.forall_mem_cons.mpr ⟨lw_p66, List.forall_mem_cons.mpr ⟨lw_p67, List.forall_mem_cons.mpr ⟨lw_p68, List.forall_mem_cons.mpr ⟨lw_p69, List.forall_mem_cons.mpr ⟨lw_p70, List.forall_mem_cons.mpr ⟨lw_p71, List.forall_mem_cons.mpr ⟨lw_p72, List.forall_mem_cons.mpr ⟨lw_p73, List.forall_mem_cons.mpr ⟨lw_p74, List.forall_mem_cons.mpr ⟨lw_p75, List.forall_mem_cons.mpr ⟨lw_p76, List.forall_mem_cons.mpr ⟨lw_p77, List.forall_mem_cons.mpr ⟨lw_p78, fun _ h => absurd h List.not_mem_nil⟩⟩⟩⟩⟩⟩⟩⟩⟩⟩⟩⟩⟩⟩⟩
def lw_privs : List (MethodName × Nat) := lw_privs_1 ++ (lw_privs_2 ++ (lw_privs_3 ++ (lw_privs_4 ++ (lw_privs_5))))
def lw_tbl : List Cond := k2_sels lw_privs ++ tables_1
theorem lw_privs_ok : ∀ q ∈ lw_privs, lw_okq q := by
  show ∀ q ∈ lw_privs_1 ++ (lw_privs_2 ++ (lw_privs_3 ++ (lw_privs_4 ++ (lw_privs_5)))), lw_okq q
  exact List.forall_mem_append.mpr ⟨lw_r1, List.forall_mem_append.mpr ⟨lw_r2, List.forall_mem_append.mpr ⟨lw_r3, List.forall_mem_append.mpr ⟨lw_r4, lw_r5⟩⟩⟩⟩
-- ===== end of PART A; then your names; then what follows =====
/-! ===== BEGIN words of one list among another's, by their places ===== -/
theorem goodIn_r {big : List Cond} (ws : List Cond) (ps : List Nat) (hp : ws = ps.filterMap (fun i => big[i]?)) (h : ws.all goodWord = true) : GoodIn big ws := by
  intro w hw
  have h1 := List.all_eq_true.mp h w hw
  rw [hp] at hw
  obtain ⟨i, -, hi⟩ := List.mem_filterMap.mp hw
  have hm : w ∈ big := by first | exact List.mem_of_getElem? hi | exact List.getElem?_mem hi
  exact ⟨hm, good_of_word h1⟩
theorem goodIn_app {big a b : List Cond} (ha : GoodIn big a) (hb : GoodIn big b) : GoodIn big (a ++ b) := fun w h => (List.mem_append.mp h).elim (ha w) (hb w)
theorem goodIn_ca {big a b : List Cond} {c : Cond} (ha : GoodIn big (c :: a)) (hb : GoodIn big b) : GoodIn big (c :: (a ++ b)) := fun w h => (List.mem_cons.mp h).elim (fun e => ha w (List.mem_cons.mpr (Or.inl e))) (fun h => (List.mem_append.mp h).elim (fun h => ha w (List.mem_cons.mpr (Or.inr h))) (hb w))
theorem goodIn_sub {big ws : List Cond} (hm : ∀ w ∈ ws, w ∈ big) (h : ws.all goodWord = true) : GoodIn big ws := fun w hw => ⟨hm w hw, good_of_word (List.all_eq_true.mp h w hw)⟩
/-! ===== END ===== -/

/-! ===== BEGIN new T[n][m]: the outer array a place, the inner ones among the pooled ===== -/
/-- f, but v at every address of l -/
def vr_up {α : Type} (f : Nat → α) (l : List Nat) (v : α) : Nat → α := fun a => if a ∈ l then v else f a
theorem vr_up_in {α : Type} {f : Nat → α} {l : List Nat} {v : α} {a : Nat} (h : a ∈ l) : vr_up f l v a = v := if_pos h
theorem vr_up_ne {α : Type} {f : Nat → α} {l : List Nat} {v : α} {a : Nat} (h : a ∉ l) : vr_up f l v a = f a := if_neg h
theorem vr_rows {L l : List Nat} {f : Nat → va_E} {e : va_E} (h : ∀ a, a ∈ l → a ∉ L) : va_pl L f ++ l.map (fun a => (a, e)) = va_pl (L ++ l) (vr_up f l e) := by
  unfold va_pl
  rw [List.map_append]
  congr 1
  · apply List.map_congr_left
    intro a ha
    rw [vr_up_ne (fun q => h a q ha)]
  · apply List.map_congr_left
    intro a ha
    rw [vr_up_in ha]
theorem vr_lay {X rows : va_W} {x : Nat × va_E} {pl : va_W} {D : va_G} {cl : List vw_C} {H : Heap} (hP : va_P D cl (((X ++ pl) ++ [x]) ++ rows) H) : va_P D cl ((X ++ [x]) ++ (pl ++ rows)) H := by
  rw [List.append_assoc (X ++ pl)] at hP
  have h := va_P.swap hP
  rw [← List.append_assoc X] at h
  have h2 := va_P.swap h
  rw [List.append_assoc (X ++ [x])] at h2
  exact h2
theorem vr_layD {X rows : va_W} {x : Nat × va_E} {pl : va_W} {A : Nat → Prop} (hD : va_D A (((X ++ pl) ++ [x]) ++ rows)) : va_D A ((X ++ [x]) ++ (pl ++ rows)) := by
  rw [List.append_assoc (X ++ pl)] at hD
  have h := va_D.swap hD
  rw [← List.append_assoc X] at h
  have h2 := va_D.swap h
  rw [List.append_assoc (X ++ [x])] at h2
  exact h2
theorem vr_outer (c : ClassId) (N h0 : Nat) : ∀ i : Nat, Jvm.Free.Multi.outerC c N h0 i = arrV c N (fun j => va_rf (if j < i then some (h0 + 1 + j) else none))
  | 0 => by
    show ({ cls := c, slots := Array.replicate N .null, vm := .none } : Cell) = _
    rw [arrV_new]
    refine congrArg (arrV c N) (funext fun j => ?_)
    simp [va_rf]
  | i + 1 => by
    show (Jvm.Free.Multi.outerC c N h0 i).setSlot i (.ref (h0 + 1 + i)) = _
    rw [vr_outer c N h0 i, arrV_store]
    refine congrArg (arrV c N) (funext fun j => ?_)
    by_cases e : j = i
    · subst e
      simp [updV, va_rf]
    · by_cases h : j < i
      · simp [updV, e, h, Nat.lt_succ_of_lt h]
      · simp [updV, e, h, show ¬ j < i + 1 by omega]
section VGM
variable {p : Program} {l : Launch} {e : Env} {R : Room} {s : State} {m : MethodId} {args : Array Value} {below : List Frame} {meth : Method} {c : Code} {H : Heap} {locs : List Loc} {cells slots : Nat} {Q : State → Prop}
variable {cc : ByteArray} {pc : Nat} {ls : Array Slot} {rest : List Value} {D : va_G} {cl : List vw_C} {A : Nat → Prop} {a : Nat} {tys : List (ClassId × FieldType)} {ws : va_W} {H0 : Heap}
theorem va_mna {X : va_W} {L : List Nat} {f : Nat → va_E} {cc : ByteArray} (hexec : p.tables.exec = Jvm.exec) (hb : c.code = cc) {own : String} {index : Nat} {ty : FieldType} {cy : ClassId} (hown : s.vm.findClass own = some m.cls) (hclink : (Cond.classLink own index ("[" ++ (FieldType.array ty).toString)).before args s = true) (hover : va_AOA ty s) (harr : (Cond.arrayClass ty).before args s = true) (hcy : s.vm.findClass (FieldType.array ty).toString = some cy)
    (hK : va_K D cl tys s) (hP : va_P D cl (X ++ va_pl L f) H) (hD : va_D A (X ++ va_pl L f)) (hS : va_S A H0 H locs) (hA : ∀ q, H0.size ≤ q → A q) {n k : Int32} {N' K' : Nat} {z : vp_A} (hn : ¬ n < 0) (hk : ¬ k < 0) (hN : n.toNatClampNeg = N') (hM : k.toNatClampNeg = K')
    (hb1 : N' * 4 ≤ 536870912) (hb2 : K' * componentBytes ty ≤ 536870912) (hb3 : K' ≤ 536870912) (hdf : fits ty (defaultValue ty) = true) (hdd : (defaultValue ty).isDefault = true) (hcells : cells + (1 + N') ≤ R.cells) (hslots : slots + (N' + N' * K') ≤ R.slots) (hz : ∀ c : ClassId, Jvm.Free.Multi.innerC c K' (defaultValue ty) = vp_cell c z) (hdg : decode cc pc = .ok (.multianewarray index 2, 4))
    (kk : ∀ (q : Nat) (r : Nat → Nat) (cA : ClassId) (H1 : Heap), (∀ i j : Nat, i < N' → j < N' → r i = r j → i = j) → (∀ i : Nat, i < N' → r i ∉ L) → va_K D cl (tys ++ [(cA, .array ty)]) s →
      va_P D cl ((X ++ [(q, .inl (cA, N', .inr (.inr (.inr (.inr (fun i => if i < N' then some (r i) else none))))))]) ++ va_pl (L ++ (List.range N').map r) (vr_up f ((List.range N').map r) (.inl (cy, z)))) H1 → va_D A ((X ++ [(q, .inl (cA, N', .inr (.inr (.inr (.inr (fun i => if i < N' then some (r i) else none))))))]) ++ va_pl (L ++ (List.range N').map r) (vr_up f ((List.range N').map r) (.inl (cy, z)))) → va_S A H0 H1 locs →
      W p l e R s m args below meth c H1 locs (cells + 1 + N') (slots + N' + N' * K') Q (F0 m (pc + 4) ls (.ref q :: rest))) : W p l e R s m args below meth c H locs cells slots Q (F0 m pc ls (.int k :: .int n :: rest)) := by
  subst hN
  subst hM
  intro T hT Xs
  obtain ⟨vm₁, cA, comp, -, fA, fC, hO, -, X', step⟩ := Xs.multianewarray2F hexec hown hclink (va_AOA.use hover) harr (g := F0 m pc ls (.int k :: .int n :: rest)) rfl (by rw [hb]; exact hdg) rfl hn hk hb1 hb2 hb3 hdf hdd hcells hslots
  have ec : some cy = some comp := hcy.symm.trans fC
  cases ec
  generalize hF : Jvm.Free.Multi.fill (T.setVm vm₁) cA cy n.toNatClampNeg k.toNatClampNeg (defaultValue ty) n.toNatClampNeg = F at X' step
  have hTh : (T.setVm vm₁).heap = H := hT
  obtain ⟨f1, f2, -, -⟩ := Jvm.Free.Multi.fill_facts (T.setVm vm₁) cA cy n.toNatClampNeg k.toNatClampNeg (defaultValue ty) n.toNatClampNeg
  rw [hF, hTh] at f1 f2
  have hold : ∀ x : Nat, x < H.size → F.heap[x]? = H[x]? := fun x hx => by
    have := Jvm.Free.Multi.fill_old (T.setVm vm₁) cA cy n.toNatClampNeg k.toNatClampNeg (defaultValue ty) (a := x) (by rw [hTh]; exact hx) n.toNatClampNeg
    rw [hF, hTh] at this
    exact this
  have hrow : ∀ j : Nat, j < n.toNatClampNeg → F.heap[H.size + 1 + j]? = some (vp_cell cy z) := fun j hj => by
    have := Jvm.Free.Multi.fill_inner (T.setVm vm₁) cA cy n.toNatClampNeg k.toNatClampNeg (defaultValue ty) n.toNatClampNeg j hj
    rw [hF, hTh, hz] at this
    exact this
  have hout : Jvm.Free.Multi.outerC cA n.toNatClampNeg H.size n.toNatClampNeg = vp_cell cA (n.toNatClampNeg, .inr (.inr (.inr (.inr (fun i => if i < n.toNatClampNeg then some (H.size + 1 + i) else none))))) := by
    rw [vp_cell_q]
    exact vr_outer cA n.toNatClampNeg H.size n.toNatClampNeg
  rw [hout] at f2
  have hlt : ∀ a, a ∈ L → a < H.size := fun a ha => by
    obtain ⟨k9, hk9⟩ := va_pl_get (X := X) (f := f) ha
    exact (hP k9 _ hk9).lt
  have hnl : ∀ i : Nat, i < n.toNatClampNeg → H.size + 1 + i ∉ L := fun i _ h => by
    have := hlt _ h
    omega
  have hnm : ∀ a, a ∈ (List.range n.toNatClampNeg).map (fun i => H.size + 1 + i) → a ∉ L := fun a ha h => by
    obtain ⟨i, -, rfl⟩ := List.mem_map.mp ha
    have := hlt _ h
    omega
  have hP0 : va_P D cl (X ++ va_pl L f) F.heap := hP.kept (fun k9 x hx => hold x.1 ((hP k9 x hx).lt))
  have hP1 : va_P D cl ((X ++ va_pl L f) ++ [(H.size, .inl (cA, n.toNatClampNeg, .inr (.inr (.inr (.inr (fun i => if i < n.toNatClampNeg then some (H.size + 1 + i) else none))))))]) F.heap := hP0.app (fun k9 x hx => by
    have h0 : k9 < 1 := (List.getElem?_eq_some_iff.mp hx).1
    rw [show k9 = 0 by omega] at hx
    cases hx
    exact f2)
  have hP2 : va_P D cl (((X ++ va_pl L f) ++ [(H.size, .inl (cA, n.toNatClampNeg, .inr (.inr (.inr (.inr (fun i => if i < n.toNatClampNeg then some (H.size + 1 + i) else none))))))]) ++ ((List.range n.toNatClampNeg).map (fun i => H.size + 1 + i)).map (fun a => (a, .inl (cy, z)))) F.heap := hP1.app (fun k9 x hx => by
    obtain ⟨a, ha, rfl⟩ := List.mem_map.mp (List.mem_of_getElem? hx)
    obtain ⟨i, hi, rfl⟩ := List.mem_map.mp ha
    exact hrow i (List.mem_range.mp hi))
  have hD2 : va_D A (((X ++ va_pl L f) ++ [(H.size, .inl (cA, n.toNatClampNeg, .inr (.inr (.inr (.inr (fun i => if i < n.toNatClampNeg then some (H.size + 1 + i) else none))))))]) ++ ((List.range n.toNatClampNeg).map (fun i => H.size + 1 + i)).map (fun a => (a, .inl (cy, z)))) := by
    have hD1 := hD.push (e := .inl (cA, n.toNatClampNeg, .inr (.inr (.inr (.inr (fun i => if i < n.toNatClampNeg then some (H.size + 1 + i) else none)))))) hP rfl (hA _ hS.1)
    generalize hW1 : (X ++ va_pl L f) ++ [(H.size, .inl (cA, n.toNatClampNeg, .inr (.inr (.inr (.inr (fun i => if i < n.toNatClampNeg then some (H.size + 1 + i) else none))))))] = W1 at hD1 hP1 ⊢
    have hle : ∀ (k9 : Nat) (x : Nat × va_E), W1[k9]? = some x → x.1 ≤ H.size := fun k9 x hx => by
      rw [← hW1] at hx
      by_cases hl : k9 < (X ++ va_pl L f).length
      · rw [List.getElem?_append_left hl] at hx
        exact Nat.le_of_lt ((hP k9 x hx).lt)
      · rw [List.getElem?_append_right (by omega)] at hx
        have h0 : k9 - (X ++ va_pl L f).length < 1 := (List.getElem?_eq_some_iff.mp hx).1
        rw [show k9 - (X ++ va_pl L f).length = 0 by omega] at hx
        cases hx
        exact Nat.le_refl _
    have hr : ∀ (k9 : Nat) (x : Nat × va_E), (((List.range n.toNatClampNeg).map (fun i => H.size + 1 + i)).map (fun a => ((a, .inl (cy, z)) : Nat × va_E)))[k9]? = some x → x.1 = H.size + 1 + k9 := fun k9 x hx => by
      rw [List.getElem?_map, List.getElem?_map] at hx
      by_cases h9 : k9 < n.toNatClampNeg
      · rw [List.getElem?_range h9] at hx
        cases hx
        rfl
      · have hn0 : (List.range n.toNatClampNeg)[k9]? = none := List.getElem?_eq_none (by rw [List.length_range]; omega)
        rw [hn0] at hx
        cases hx
    refine ⟨fun i j x y hi hj hxy => ?_, fun k9 x hx => ?_⟩
    · by_cases h1 : i < W1.length <;> by_cases h2 : j < W1.length
      · rw [List.getElem?_append_left h1] at hi
        rw [List.getElem?_append_left h2] at hj
        exact hD1.1 i j x y hi hj hxy
      · rw [List.getElem?_append_left h1] at hi
        rw [List.getElem?_append_right (by omega)] at hj
        have := hle _ _ hi
        have := hr _ _ hj
        omega
      · rw [List.getElem?_append_right (by omega)] at hi
        rw [List.getElem?_append_left h2] at hj
        have := hle _ _ hj
        have := hr _ _ hi
        omega
      · rw [List.getElem?_append_right (by omega)] at hi hj
        have := hr _ _ hi
        have := hr _ _ hj
        omega
    · by_cases h1 : k9 < W1.length
      · rw [List.getElem?_append_left h1] at hx
        exact hD1.2 k9 x hx
      · rw [List.getElem?_append_right (by omega)] at hx
        have := hr _ _ hx
        exact hA _ (by have := hS.1; omega)
  have hAr : ArrOfT s cA (.array ty) := fun N9 z9 => by
    obtain ⟨-, k9, hk9, cm9, hkk9⟩ := (hO 0 0 0).1
    exact ⟨(fun q hq => by cases hq), k9, hk9, cm9, hkk9⟩
  have hK2 : va_K D cl (tys ++ [(cA, .array ty)]) s := ⟨hK.1, fun k9 x hx => by
    by_cases hl : k9 < tys.length
    · rw [List.getElem?_append_left hl] at hx
      exact hK.2 k9 x hx
    · rw [List.getElem?_append_right (by omega)] at hx
      have h0 : k9 - tys.length < 1 := (List.getElem?_eq_some_iff.mp hx).1
      rw [show k9 - tys.length = 0 by omega] at hx
      cases hx
      exact ⟨hAr, fA⟩⟩
  obtain ⟨t, a1, b1⟩ := kk H.size (fun i => H.size + 1 + i) cA F.heap (fun i j _ _ h => by have h9 : H.size + 1 + i = H.size + 1 + j := h; omega) hnl hK2 (by rw [← vr_rows hnm]; exact vr_lay hP2) (by rw [← vr_rows hnm]; exact vr_layD hD2) ⟨by rw [f1]; have := hS.1; omega, fun x h1 h2 => (hold x (Nat.lt_of_lt_of_le h1 hS.1)).trans (hS.2.1 x h1 h2), hS.2.2⟩ F rfl X'
  refine ⟨t, step t ?_, b1⟩
  have e : T.heap.size = H.size := by rw [hT]
  rw [e]
  exact a1
end VGM
/-! ===== END ===== -/

/-! ===== BEGIN printed: names, fields, word lists, decode rows ===== -/
def RX0 : String := "RoomBorn$Filling"
def TX0 : u_T := fun k => match k with
  | 0 => ("RoomBorn$Filling", "can", "[I", true)
  | 1 => ("RoomBorn$Filling", "most", "[[I", true)
  | 2 => ("RoomBorn$Filling", "children", "I", false)
  | _ => ("RoomBorn$Filling", "works", "I", false)
def tyX0 : Nat → FieldType := fun k => match k with
  | 0 => .array .int
  | 1 => .array (.array .int)
  | 2 => .int
  | _ => .int
abbrev wsX00 : List Cond := u_ws RX0 TX0 4
theorem nmX0 : ∀ a, a < 4 → ∀ b, b < 4 → a ≠ b → (TX0 a).2.1 ≠ (TX0 b).2.1 := by decide +kernel
theorem tyX0_ok : ∀ k, k < 4 → parseFieldDescriptor (TX0 k).2.2.1 = some (tyX0 k) := by decide +kernel
abbrev cX0_init : ByteArray := prog_2_method_1_code
def yX0_init : MethodName := ⟨RX0, "<init>", "()V"⟩
abbrev cX0_solve : ByteArray := prog_2_method_2_code
def yX0_solve : MethodName := ⟨RX0, "solve", "()I"⟩
abbrev cX0_mostFrom : ByteArray := prog_2_method_3_code
def yX0_mostFrom : MethodName := ⟨RX0, "mostFrom", "(II)I"⟩
abbrev cX0_isFree : ByteArray := prog_2_method_4_code
def yX0_isFree : MethodName := ⟨RX0, "isFree", "(III)Z"⟩
abbrev cX0_workOf : ByteArray := prog_2_method_5_code
def yX0_workOf : MethodName := ⟨RX0, "workOf", "(I)I"⟩
abbrev cX0_firstWork : ByteArray := prog_2_method_6_code
def yX0_firstWork : MethodName := ⟨RX0, "firstWork", "(II)I"⟩
def RX1 : String := "RoomBorn$Moment"
def TX1 : u_T := fun k => match k with
  | 0 => ("RoomBorn$Moment", "old", "[I", true)
  | 1 => ("RoomBorn$Moment", "joined", "[I", true)
  | 2 => ("RoomBorn$Moment", "age", "[I", true)
  | 3 => ("RoomBorn$Moment", "yearNumber", "I", false)
  | 4 => ("RoomBorn$Moment", "born", "I", false)
  | _ => ("RoomBorn$Moment", "living", "I", false)
def tyX1 : Nat → FieldType := fun k => match k with
  | 0 => .array .int
  | 1 => .array .int
  | 2 => .array .int
  | 3 => .int
  | 4 => .int
  | _ => .int
abbrev wsX10 : List Cond := u_ws RX1 TX1 6
theorem nmX1 : ∀ a, a < 6 → ∀ b, b < 6 → a ≠ b → (TX1 a).2.1 ≠ (TX1 b).2.1 := by decide +kernel
theorem tyX1_ok : ∀ k, k < 6 → parseFieldDescriptor (TX1 k).2.2.1 = some (tyX1 k) := by decide +kernel
abbrev cX1_init : ByteArray := prog_3_method_1_code
def yX1_init : MethodName := ⟨RX1, "<init>", "()V"⟩
abbrev cX1_begin : ByteArray := prog_3_method_2_code
def yX1_begin : MethodName := ⟨RX1, "begin", "(LRoomBorn$Told;)V"⟩
abbrev cX1_become : ByteArray := prog_3_method_3_code
def yX1_become : MethodName := ⟨RX1, "become", "(LRoomBorn$Moment;)V"⟩
abbrev cX1_ageOfRoom : ByteArray := prog_3_method_4_code
def yX1_ageOfRoom : MethodName := ⟨RX1, "ageOfRoom", "(I)I"⟩
abbrev cX1_ageTogether : ByteArray := prog_3_method_5_code
def yX1_ageTogether : MethodName := ⟨RX1, "ageTogether", "(I)I"⟩
abbrev cX1_bear : ByteArray := prog_3_method_6_code
def yX1_bear : MethodName := ⟨RX1, "bear", "(III)I"⟩
abbrev cX1_passYear : ByteArray := prog_3_method_7_code
def yX1_passYear : MethodName := ⟨RX1, "passYear", "(LRoomBorn$Told;)I"⟩
abbrev cX1_knockThrough : ByteArray := prog_3_method_8_code
def yX1_knockThrough : MethodName := ⟨RX1, "knockThrough", "(II)V"⟩
abbrev cX1_buildAnew : ByteArray := prog_3_method_9_code
def yX1_buildAnew : MethodName := ⟨RX1, "buildAnew", "(I)V"⟩
abbrev cX1_howManyAheadOf : ByteArray := prog_3_method_10_code
def yX1_howManyAheadOf : MethodName := ⟨RX1, "howManyAheadOf", "(I)I"⟩
def RX2 : String := "RoomBorn$Past"
def TX2 : u_T := fun k => match k with
  | 0 => ("RoomBorn$Past", "moments", "[LRoomBorn$Moment;", true)
  | 1 => ("RoomBorn$Past", "free", "I", false)
  | _ => ("RoomBorn$Past", "known", "I", false)
def tyX2 : Nat → FieldType := fun k => match k with
  | 0 => .array (.object "RoomBorn$Moment")
  | 1 => .int
  | _ => .int
abbrev wsX20 : List Cond := u_ws RX2 TX2 3
theorem nmX2 : ∀ a, a < 3 → ∀ b, b < 3 → a ≠ b → (TX2 a).2.1 ≠ (TX2 b).2.1 := by decide +kernel
theorem tyX2_ok : ∀ k, k < 3 → parseFieldDescriptor (TX2 k).2.2.1 = some (tyX2 k) := by decide +kernel
abbrev cX2_init : ByteArray := prog_4_method_1_code
def yX2_init : MethodName := ⟨RX2, "<init>", "()V"⟩
abbrev cX2_remember : ByteArray := prog_4_method_2_code
def yX2_remember : MethodName := ⟨RX2, "remember", "(LRoomBorn$Moment;)V"⟩
abbrev cX2_restore : ByteArray := prog_4_method_3_code
def yX2_restore : MethodName := ⟨RX2, "restore", "(LRoomBorn$Moment;)V"⟩
def RX3 : String := "RoomBorn$Seen"
def TX3 : u_T := fun k => match k with
  | 0 => ("RoomBorn$Seen", "works", "[I", true)
  | 1 => ("RoomBorn$Seen", "could", "[Z", true)
  | _ => ("RoomBorn$Seen", "known", "I", false)
def tyX3 : Nat → FieldType := fun k => match k with
  | 0 => .array .int
  | 1 => .array .boolean
  | _ => .int
abbrev wsX30 : List Cond := u_ws RX3 TX3 3
theorem nmX3 : ∀ a, a < 3 → ∀ b, b < 3 → a ≠ b → (TX3 a).2.1 ≠ (TX3 b).2.1 := by decide +kernel
theorem tyX3_ok : ∀ k, k < 3 → parseFieldDescriptor (TX3 k).2.2.1 = some (tyX3 k) := by decide +kernel
abbrev cX3_init : ByteArray := prog_5_method_1_code
def yX3_init : MethodName := ⟨RX3, "<init>", "()V"⟩
abbrev cX3_add : ByteArray := prog_5_method_2_code
def yX3_add : MethodName := ⟨RX3, "add", "(IZ)V"⟩
abbrev cX3_allows : ByteArray := prog_5_method_3_code
def yX3_allows : MethodName := ⟨RX3, "allows", "(LRoomBorn$Told;I)Z"⟩
def RX4 : String := "RoomBorn$Text"
def TX4 : u_T := fun k => match k with
  | 0 => ("RoomBorn$Text", "letters", "[I", true)
  | 1 => ("RoomBorn$Text", "length", "I", false)
  | 2 => ("RoomBorn$Text", "place", "I", false)
  | 3 => ("RoomBorn$Text", "start", "I", false)
  | 4 => ("RoomBorn$Text", "token", "I", false)
  | 5 => ("RoomBorn$Text", "value", "I", false)
  | 6 => ("RoomBorn$Text", "mothersTold", "Z", false)
  | _ => ("RoomBorn$Text", "lifeTold", "Z", false)
def tyX4 : Nat → FieldType := fun k => match k with
  | 0 => .array .int
  | 1 => .int
  | 2 => .int
  | 3 => .int
  | 4 => .int
  | 5 => .int
  | 6 => .boolean
  | _ => .boolean
abbrev wsX40 : List Cond := u_ws RX4 TX4 8
theorem nmX4 : ∀ a, a < 8 → ∀ b, b < 8 → a ≠ b → (TX4 a).2.1 ≠ (TX4 b).2.1 := by decide +kernel
theorem tyX4_ok : ∀ k, k < 8 → parseFieldDescriptor (TX4 k).2.2.1 = some (tyX4 k) := by decide +kernel
abbrev cX4_init : ByteArray := prog_6_method_1_code
def yX4_init : MethodName := ⟨RX4, "<init>", "()V"⟩
abbrev cX4_add : ByteArray := prog_6_method_2_code
def yX4_add : MethodName := ⟨RX4, "add", "(I)V"⟩
abbrev cX4_reads : ByteArray := prog_6_method_3_code
def yX4_reads : MethodName := ⟨RX4, "reads", "(LRoomBorn$Told;)Z"⟩
abbrev cX4_readsItem : ByteArray := prog_6_method_4_code
def yX4_readsItem : MethodName := ⟨RX4, "readsItem", "(LRoomBorn$Told;)Z"⟩
abbrev cX4_readsRoom : ByteArray := prog_6_method_5_code
def yX4_readsRoom : MethodName := ⟨RX4, "readsRoom", "(LRoomBorn$Told;)Z"⟩
abbrev cX4_readsWork : ByteArray := prog_6_method_6_code
def yX4_readsWork : MethodName := ⟨RX4, "readsWork", "(LRoomBorn$Told;)Z"⟩
abbrev cX4_readsMothers : ByteArray := prog_6_method_7_code
def yX4_readsMothers : MethodName := ⟨RX4, "readsMothers", "(LRoomBorn$Told;)Z"⟩
abbrev cX4_readsLife : ByteArray := prog_6_method_8_code
def yX4_readsLife : MethodName := ⟨RX4, "readsLife", "(LRoomBorn$Told;)Z"⟩
abbrev cX4_readsItemEnd : ByteArray := prog_6_method_9_code
def yX4_readsItemEnd : MethodName := ⟨RX4, "readsItemEnd", "()Z"⟩
abbrev cX4_readsNumber : ByteArray := prog_6_method_10_code
def yX4_readsNumber : MethodName := ⟨RX4, "readsNumber", "(II)Z"⟩
abbrev cX4_readToken : ByteArray := prog_6_method_11_code
def yX4_readToken : MethodName := ⟨RX4, "readToken", "()V"⟩
abbrev cX4_readDigits : ByteArray := prog_6_method_12_code
def yX4_readDigits : MethodName := ⟨RX4, "readDigits", "()V"⟩
abbrev cX4_isDigit : ByteArray := prog_6_method_13_code
def yX4_isDigit : MethodName := ⟨RX4, "isDigit", "(I)Z"⟩
def RX5 : String := "RoomBorn$Told"
def TX5 : u_T := fun k => match k with
  | 0 => ("RoomBorn$Told", "old", "[I", true)
  | 1 => ("RoomBorn$Told", "low", "[I", true)
  | 2 => ("RoomBorn$Told", "high", "[I", true)
  | 3 => ("RoomBorn$Told", "items", "I", false)
  | 4 => ("RoomBorn$Told", "rooms", "I", false)
  | 5 => ("RoomBorn$Told", "mothers", "I", false)
  | 6 => ("RoomBorn$Told", "works", "I", false)
  | _ => ("RoomBorn$Told", "life", "I", false)
def tyX5 : Nat → FieldType := fun k => match k with
  | 0 => .array .int
  | 1 => .array .int
  | 2 => .array .int
  | 3 => .int
  | 4 => .int
  | 5 => .int
  | 6 => .int
  | _ => .int
abbrev wsX50 : List Cond := u_ws RX5 TX5 8
theorem nmX5 : ∀ a, a < 8 → ∀ b, b < 8 → a ≠ b → (TX5 a).2.1 ≠ (TX5 b).2.1 := by decide +kernel
theorem tyX5_ok : ∀ k, k < 8 → parseFieldDescriptor (TX5 k).2.2.1 = some (tyX5 k) := by decide +kernel
abbrev cX5_init : ByteArray := prog_7_method_1_code
def yX5_init : MethodName := ⟨RX5, "<init>", "()V"⟩
abbrev cX5_tellNothing : ByteArray := prog_7_method_2_code
def yX5_tellNothing : MethodName := ⟨RX5, "tellNothing", "()V"⟩
abbrev cX5_spans : ByteArray := prog_7_method_3_code
def yX5_spans : MethodName := ⟨RX5, "spans", "(II)Z"⟩
abbrev cX5_does : ByteArray := prog_7_method_4_code
def yX5_does : MethodName := ⟨RX5, "does", "(II)Z"⟩
abbrev cX5_worksAt : ByteArray := prog_7_method_5_code
def yX5_worksAt : MethodName := ⟨RX5, "worksAt", "(I)I"⟩
def RX6 : String := "RoomBorn"
def TX6 : u_T := fun k => match k with
  | 0 => ("RoomBorn", "text", "LRoomBorn$Text;", true)
  | 1 => ("RoomBorn", "today", "LRoomBorn$Moment;", true)
  | 2 => ("RoomBorn", "past", "LRoomBorn$Past;", true)
  | 3 => ("RoomBorn", "images", "[LRoomBorn$Moment;", true)
  | 4 => ("RoomBorn", "kept", "[Z", true)
  | 5 => ("RoomBorn", "filling", "LRoomBorn$Filling;", true)
  | 6 => ("RoomBorn", "seen", "LRoomBorn$Seen;", true)
  | 7 => ("RoomBorn", "told", "LRoomBorn$Told;", false)
  | 8 => ("RoomBorn", "draft", "LRoomBorn$Told;", false)
  | _ => ("RoomBorn", "traced", "J", false)
def tyX6 : Nat → FieldType := fun k => match k with
  | 0 => .object "RoomBorn$Text"
  | 1 => .object "RoomBorn$Moment"
  | 2 => .object "RoomBorn$Past"
  | 3 => .array (.object "RoomBorn$Moment")
  | 4 => .array .boolean
  | 5 => .object "RoomBorn$Filling"
  | 6 => .object "RoomBorn$Seen"
  | 7 => .object "RoomBorn$Told"
  | 8 => .object "RoomBorn$Told"
  | _ => .long
abbrev wsX60 : List Cond := u_ws RX6 TX6 10
theorem nmX6 : ∀ a, a < 10 → ∀ b, b < 10 → a ≠ b → (TX6 a).2.1 ≠ (TX6 b).2.1 := by decide +kernel
theorem tyX6_ok : ∀ k, k < 10 → parseFieldDescriptor (TX6 k).2.2.1 = some (tyX6 k) := by decide +kernel
abbrev cX6_init : ByteArray := prog_1_method_1_code
def yX6_init : MethodName := ⟨RX6, "<init>", "()V"⟩
abbrev cX6_type : ByteArray := prog_1_method_2_code
def yX6_type : MethodName := ⟨RX6, "type", "(I)I"⟩
abbrev cX6_clear : ByteArray := prog_1_method_3_code
def yX6_clear : MethodName := ⟨RX6, "clear", "()I"⟩
abbrev cX6_town : ByteArray := prog_1_method_4_code
def yX6_town : MethodName := ⟨RX6, "town", "()I"⟩
abbrev cX6_room : ByteArray := prog_1_method_5_code
def yX6_room : MethodName := ⟨RX6, "room", "(II)I"⟩
abbrev cX6_child : ByteArray := prog_1_method_6_code
def yX6_child : MethodName := ⟨RX6, "child", "(II)I"⟩
abbrev cX6_work : ByteArray := prog_1_method_7_code
def yX6_work : MethodName := ⟨RX6, "work", "(II)I"⟩
abbrev cX6_now : ByteArray := prog_1_method_8_code
def yX6_now : MethodName := ⟨RX6, "now", "(I)I"⟩
abbrev cX6_bears : ByteArray := prog_1_method_9_code
def yX6_bears : MethodName := ⟨RX6, "bears", "(II)I"⟩
abbrev cX6_year : ByteArray := prog_1_method_10_code
def yX6_year : MethodName := ⟨RX6, "year", "()I"⟩
abbrev cX6_joins : ByteArray := prog_1_method_11_code
def yX6_joins : MethodName := ⟨RX6, "joins", "(II)I"⟩
abbrev cX6_builds : ByteArray := prog_1_method_12_code
def yX6_builds : MethodName := ⟨RX6, "builds", "(I)I"⟩
abbrev cX6_undo : ByteArray := prog_1_method_13_code
def yX6_undo : MethodName := ⟨RX6, "undo", "()I"⟩
abbrev cX6_fills : ByteArray := prog_1_method_14_code
def yX6_fills : MethodName := ⟨RX6, "fills", "(I)I"⟩
abbrev cX6_carry : ByteArray := prog_1_method_15_code
def yX6_carry : MethodName := ⟨RX6, "carry", "(II)I"⟩
abbrev cX6_join : ByteArray := prog_1_method_16_code
def yX6_join : MethodName := ⟨RX6, "join", "(I)I"⟩
abbrev cX6_elder : ByteArray := prog_1_method_17_code
def yX6_elder : MethodName := ⟨RX6, "elder", "(I)I"⟩
abbrev cX6_odds : ByteArray := prog_1_method_18_code
def yX6_odds : MethodName := ⟨RX6, "odds", "(II)I"⟩
abbrev cX6_sees : ByteArray := prog_1_method_19_code
def yX6_sees : MethodName := ⟨RX6, "sees", "(II)I"⟩
abbrev cX6_forget : ByteArray := prog_1_method_20_code
def yX6_forget : MethodName := ⟨RX6, "forget", "()I"⟩
abbrev cX6_ages : ByteArray := prog_1_method_21_code
def yX6_ages : MethodName := ⟨RX6, "ages", "(I)I"⟩
abbrev cX6_next : ByteArray := prog_1_method_22_code
def yX6_next : MethodName := ⟨RX6, "next", "()I"⟩
abbrev cX6_rate : ByteArray := prog_1_method_23_code
def yX6_rate : MethodName := ⟨RX6, "rate", "(II)I"⟩
abbrev cX6_keep : ByteArray := prog_1_method_24_code
def yX6_keep : MethodName := ⟨RX6, "keep", "(I)I"⟩
abbrev cX6_back : ByteArray := prog_1_method_25_code
def yX6_back : MethodName := ⟨RX6, "back", "(I)I"⟩
abbrev cX6_count : ByteArray := prog_1_method_26_code
def yX6_count : MethodName := ⟨RX6, "count", "(I)I"⟩
abbrev cX6_trace : ByteArray := prog_1_method_27_code
def yX6_trace : MethodName := ⟨RX6, "trace", "()J"⟩
abbrev cX6_beginAnew : ByteArray := prog_1_method_28_code
def yX6_beginAnew : MethodName := ⟨RX6, "beginAnew", "()V"⟩
abbrev cX6_isRoom : ByteArray := prog_1_method_29_code
def yX6_isRoom : MethodName := ⟨RX6, "isRoom", "(I)Z"⟩
abbrev cX6_isMother : ByteArray := prog_1_method_30_code
def yX6_isMother : MethodName := ⟨RX6, "isMother", "(I)Z"⟩
abbrev cX6_isWork : ByteArray := prog_1_method_31_code
def yX6_isWork : MethodName := ⟨RX6, "isWork", "(I)Z"⟩
abbrev cX6_isImage : ByteArray := prog_1_method_32_code
def yX6_isImage : MethodName := ⟨RX6, "isImage", "(I)Z"⟩
abbrev cX6_bit : ByteArray := prog_1_method_33_code
def yX6_bit : MethodName := ⟨RX6, "bit", "(I)I"⟩
abbrev cX6_has : ByteArray := prog_1_method_34_code
def yX6_has : MethodName := ⟨RX6, "has", "(II)Z"⟩
abbrev cX6_worksOfChild : ByteArray := prog_1_method_35_code
def yX6_worksOfChild : MethodName := ⟨RX6, "worksOfChild", "(I)I"⟩
abbrev cX6_whoCanDo : ByteArray := prog_1_method_36_code
def yX6_whoCanDo : MethodName := ⟨RX6, "whoCanDo", "(II)I"⟩
abbrev cX6_yearsUntilNobody : ByteArray := prog_1_method_37_code
def yX6_yearsUntilNobody : MethodName := ⟨RX6, "yearsUntilNobody", "(I)I"⟩
abbrev cX6_tellFilling : ByteArray := prog_1_method_38_code
def yX6_tellFilling : MethodName := ⟨RX6, "tellFilling", "()V"⟩
abbrev cX6_mostFilled : ByteArray := prog_1_method_39_code
def yX6_mostFilled : MethodName := ⟨RX6, "mostFilled", "()I"⟩
abbrev cX6_roomsToDo : ByteArray := prog_1_method_40_code
def yX6_roomsToDo : MethodName := ⟨RX6, "roomsToDo", "(I)I"⟩
abbrev cX6_power : ByteArray := prog_1_method_41_code
def yX6_power : MethodName := ⟨RX6, "power", "(II)I"⟩
abbrev cX6_greatestDivisor : ByteArray := prog_1_method_42_code
def yX6_greatestDivisor : MethodName := ⟨RX6, "greatestDivisor", "(II)I"⟩
abbrev cX6_possibleAges : ByteArray := prog_1_method_43_code
def yX6_possibleAges : MethodName := ⟨RX6, "possibleAges", "()I"⟩
abbrev cX6_possibleAgesAtWork : ByteArray := prog_1_method_44_code
def yX6_possibleAgesAtWork : MethodName := ⟨RX6, "possibleAgesAtWork", "(I)I"⟩
abbrev cX6_leastAge : ByteArray := prog_1_method_45_code
def yX6_leastAge : MethodName := ⟨RX6, "leastAge", "()I"⟩
abbrev cX6_greatestAge : ByteArray := prog_1_method_46_code
def yX6_greatestAge : MethodName := ⟨RX6, "greatestAge", "()I"⟩
abbrev cX6_rateChild : ByteArray := prog_1_method_47_code
def yX6_rateChild : MethodName := ⟨RX6, "rateChild", "(I)I"⟩
abbrev cX6_rateAttic : ByteArray := prog_1_method_48_code
def yX6_rateAttic : MethodName := ⟨RX6, "rateAttic", "(I)I"⟩
abbrev cX6_rateCellar : ByteArray := prog_1_method_49_code
def yX6_rateCellar : MethodName := ⟨RX6, "rateCellar", "(I)I"⟩
abbrev cX6_rateGable : ByteArray := prog_1_method_50_code
def yX6_rateGable : MethodName := ⟨RX6, "rateGable", "(I)I"⟩
abbrev cX6_rateCrypt : ByteArray := prog_1_method_51_code
def yX6_rateCrypt : MethodName := ⟨RX6, "rateCrypt", "(I)I"⟩
abbrev cX6_rateCart : ByteArray := prog_1_method_52_code
def yX6_rateCart : MethodName := ⟨RX6, "rateCart", "(I)I"⟩
def RX7 : String := "RoomBornModel"
def TX7 : u_T := fun k => match k with
  | 0 => ("RoomBornModel", "thrown", "I", false)
  | 1 => ("RoomBornModel", "trace", "J", false)
  | 2 => ("RoomBornModel", "text", "[I", true)
  | 3 => ("RoomBornModel", "typed", "I", false)
  | 4 => ("RoomBornModel", "at", "I", false)
  | 5 => ("RoomBornModel", "token", "I", false)
  | 6 => ("RoomBornModel", "place", "I", false)
  | 7 => ("RoomBornModel", "value", "I", false)
  | 8 => ("RoomBornModel", "fault", "I", false)
  | 9 => ("RoomBornModel", "told", "I", false)
  | 10 => ("RoomBornModel", "many", "[I", true)
  | 11 => ("RoomBornModel", "oldTold", "[I", true)
  | 12 => ("RoomBornModel", "low", "[I", true)
  | 13 => ("RoomBornModel", "high", "[I", true)
  | 14 => ("RoomBornModel", "s", "[I", true)
  | 15 => ("RoomBornModel", "kept", "[I", true)
  | 16 => ("RoomBornModel", "isKept", "[Z", true)
  | 17 => ("RoomBornModel", "undos", "[I", true)
  | 18 => ("RoomBornModel", "undoMany", "I", false)
  | 19 => ("RoomBornModel", "seenBy", "[I", true)
  | 20 => ("RoomBornModel", "seen", "[I", true)
  | 21 => ("RoomBornModel", "seenMany", "I", false)
  | 22 => ("RoomBornModel", "can", "[I", true)
  | 23 => ("RoomBornModel", "does", "[I", true)
  | _ => ("RoomBornModel", "best", "[I", true)
def tyX7 : Nat → FieldType := fun k => match k with
  | 0 => .int
  | 1 => .long
  | 2 => .array .int
  | 3 => .int
  | 4 => .int
  | 5 => .int
  | 6 => .int
  | 7 => .int
  | 8 => .int
  | 9 => .int
  | 10 => .array .int
  | 11 => .array .int
  | 12 => .array .int
  | 13 => .array .int
  | 14 => .array .int
  | 15 => .array .int
  | 16 => .array .boolean
  | 17 => .array .int
  | 18 => .int
  | 19 => .array .int
  | 20 => .array .int
  | 21 => .int
  | 22 => .array .int
  | 23 => .array .int
  | _ => .array .int
abbrev wsX70 : List Cond := u_ws RX7 TX7 25
theorem nmX7 : ∀ a, a < 25 → ∀ b, b < 25 → a ≠ b → (TX7 a).2.1 ≠ (TX7 b).2.1 := by decide +kernel
theorem tyX7_ok : ∀ k, k < 25 → parseFieldDescriptor (TX7 k).2.2.1 = some (tyX7 k) := by decide +kernel
abbrev cX7_init : ByteArray := prog_9_method_1_code
def yX7_init : MethodName := ⟨RX7, "<init>", "()V"⟩
abbrev cX7_in : ByteArray := prog_9_method_3_code
def yX7_in : MethodName := ⟨RX7, "in", "(III)Z"⟩
abbrev cX7_has : ByteArray := prog_9_method_4_code
def yX7_has : MethodName := ⟨RX7, "has", "(II)Z"⟩
abbrev cX7_ones : ByteArray := prog_9_method_5_code
def yX7_ones : MethodName := ⟨RX7, "ones", "(I)I"⟩
abbrev cX7_type : ByteArray := prog_9_method_6_code
def yX7_type : MethodName := ⟨RX7, "type", "(I)I"⟩
abbrev cX7_clear : ByteArray := prog_9_method_7_code
def yX7_clear : MethodName := ⟨RX7, "clear", "()I"⟩
abbrev cX7_letterAt : ByteArray := prog_9_method_8_code
def yX7_letterAt : MethodName := ⟨RX7, "letterAt", "(I)I"⟩
abbrev cX7_isLetter : ByteArray := prog_9_method_9_code
def yX7_isLetter : MethodName := ⟨RX7, "isLetter", "(I)Z"⟩
abbrev cX7_advances : ByteArray := prog_9_method_10_code
def yX7_advances : MethodName := ⟨RX7, "advances", "()V"⟩
abbrev cX7_isWell : ByteArray := prog_9_method_11_code
def yX7_isWell : MethodName := ⟨RX7, "isWell", "()Z"⟩
abbrev cX7_takes : ByteArray := prog_9_method_12_code
def yX7_takes : MethodName := ⟨RX7, "takes", "(Z)I"⟩
abbrev cX7_number : ByteArray := prog_9_method_13_code
def yX7_number : MethodName := ⟨RX7, "number", "(II)I"⟩
abbrev cX7_begins : ByteArray := prog_9_method_14_code
def yX7_begins : MethodName := ⟨RX7, "begins", "()V"⟩
abbrev cX7_mayBegin : ByteArray := prog_9_method_15_code
def yX7_mayBegin : MethodName := ⟨RX7, "mayBegin", "()Z"⟩
abbrev cX7_readsItem : ByteArray := prog_9_method_16_code
def yX7_readsItem : MethodName := ⟨RX7, "readsItem", "(I)V"⟩
abbrev cX7_town : ByteArray := prog_9_method_17_code
def yX7_town : MethodName := ⟨RX7, "town", "()I"⟩
abbrev cX7_settles : ByteArray := prog_9_method_18_code
def yX7_settles : MethodName := ⟨RX7, "settles", "()V"⟩
abbrev cX7_isRoom : ByteArray := prog_9_method_19_code
def yX7_isRoom : MethodName := ⟨RX7, "isRoom", "(I)Z"⟩
abbrev cX7_isChild : ByteArray := prog_9_method_20_code
def yX7_isChild : MethodName := ⟨RX7, "isChild", "(I)Z"⟩
abbrev cX7_isWork : ByteArray := prog_9_method_21_code
def yX7_isWork : MethodName := ⟨RX7, "isWork", "(I)Z"⟩
abbrev cX7_joinedWith : ByteArray := prog_9_method_22_code
def yX7_joinedWith : MethodName := ⟨RX7, "joinedWith", "(I)I"⟩
abbrev cX7_ageBy : ByteArray := prog_9_method_23_code
def yX7_ageBy : MethodName := ⟨RX7, "ageBy", "(I)I"⟩
abbrev cX7_ageOf : ByteArray := prog_9_method_24_code
def yX7_ageOf : MethodName := ⟨RX7, "ageOf", "(I)I"⟩
abbrev cX7_worksAt : ByteArray := prog_9_method_25_code
def yX7_worksAt : MethodName := ⟨RX7, "worksAt", "(I)I"⟩
abbrev cX7_worksOf : ByteArray := prog_9_method_26_code
def yX7_worksOf : MethodName := ⟨RX7, "worksOf", "(I)I"⟩
abbrev cX7_whoCan : ByteArray := prog_9_method_27_code
def yX7_whoCan : MethodName := ⟨RX7, "whoCan", "(I)I"⟩
abbrev cX7_isDoneIn : ByteArray := prog_9_method_28_code
def yX7_isDoneIn : MethodName := ⟨RX7, "isDoneIn", "(II)Z"⟩
abbrev cX7_lastsOf : ByteArray := prog_9_method_29_code
def yX7_lastsOf : MethodName := ⟨RX7, "lastsOf", "(I)I"⟩
abbrev cX7_room : ByteArray := prog_9_method_30_code
def yX7_room : MethodName := ⟨RX7, "room", "(II)I"⟩
abbrev cX7_child : ByteArray := prog_9_method_31_code
def yX7_child : MethodName := ⟨RX7, "child", "(II)I"⟩
abbrev cX7_work : ByteArray := prog_9_method_32_code
def yX7_work : MethodName := ⟨RX7, "work", "(II)I"⟩
abbrev cX7_asNow : ByteArray := prog_9_method_33_code
def yX7_asNow : MethodName := ⟨RX7, "asNow", "()V"⟩
abbrev cX7_sixes : ByteArray := prog_9_method_34_code
def yX7_sixes : MethodName := ⟨RX7, "sixes", "(I)I"⟩
abbrev cX7_doing : ByteArray := prog_9_method_35_code
def yX7_doing : MethodName := ⟨RX7, "doing", "(I)I"⟩
abbrev cX7_filled : ByteArray := prog_9_method_36_code
def yX7_filled : MethodName := ⟨RX7, "filled", "()I"⟩
abbrev cX7_now : ByteArray := prog_9_method_37_code
def yX7_now : MethodName := ⟨RX7, "now", "(I)I"⟩
abbrev cX7_notes : ByteArray := prog_9_method_38_code
def yX7_notes : MethodName := ⟨RX7, "notes", "()V"⟩
abbrev cX7_bears : ByteArray := prog_9_method_39_code
def yX7_bears : MethodName := ⟨RX7, "bears", "(II)I"⟩
abbrev cX7_year : ByteArray := prog_9_method_40_code
def yX7_year : MethodName := ⟨RX7, "year", "()I"⟩
abbrev cX7_joins : ByteArray := prog_9_method_41_code
def yX7_joins : MethodName := ⟨RX7, "joins", "(II)I"⟩
abbrev cX7_builds : ByteArray := prog_9_method_42_code
def yX7_builds : MethodName := ⟨RX7, "builds", "(I)I"⟩
abbrev cX7_undo : ByteArray := prog_9_method_43_code
def yX7_undo : MethodName := ⟨RX7, "undo", "()I"⟩
abbrev cX7_fills : ByteArray := prog_9_method_44_code
def yX7_fills : MethodName := ⟨RX7, "fills", "(I)I"⟩
abbrev cX7_carry : ByteArray := prog_9_method_45_code
def yX7_carry : MethodName := ⟨RX7, "carry", "(II)I"⟩
abbrev cX7_join : ByteArray := prog_9_method_46_code
def yX7_join : MethodName := ⟨RX7, "join", "(I)I"⟩
abbrev cX7_elder : ByteArray := prog_9_method_47_code
def yX7_elder : MethodName := ⟨RX7, "elder", "(I)I"⟩
abbrev cX7_power : ByteArray := prog_9_method_48_code
def yX7_power : MethodName := ⟨RX7, "power", "(II)I"⟩
abbrev cX7_gcd : ByteArray := prog_9_method_49_code
def yX7_gcd : MethodName := ⟨RX7, "gcd", "(II)I"⟩
abbrev cX7_odds : ByteArray := prog_9_method_50_code
def yX7_odds : MethodName := ⟨RX7, "odds", "(II)I"⟩
abbrev cX7_sees : ByteArray := prog_9_method_51_code
def yX7_sees : MethodName := ⟨RX7, "sees", "(II)I"⟩
abbrev cX7_forget : ByteArray := prog_9_method_52_code
def yX7_forget : MethodName := ⟨RX7, "forget", "()I"⟩
abbrev cX7_canBe : ByteArray := prog_9_method_53_code
def yX7_canBe : MethodName := ⟨RX7, "canBe", "(I)Z"⟩
abbrev cX7_ages : ByteArray := prog_9_method_54_code
def yX7_ages : MethodName := ⟨RX7, "ages", "(I)I"⟩
abbrev cX7_next : ByteArray := prog_9_method_55_code
def yX7_next : MethodName := ⟨RX7, "next", "()I"⟩
abbrev cX7_rate : ByteArray := prog_9_method_56_code
def yX7_rate : MethodName := ⟨RX7, "rate", "(II)I"⟩
abbrev cX7_keep : ByteArray := prog_9_method_57_code
def yX7_keep : MethodName := ⟨RX7, "keep", "(I)I"⟩
abbrev cX7_back : ByteArray := prog_9_method_58_code
def yX7_back : MethodName := ⟨RX7, "back", "(I)I"⟩
abbrev cX7_count : ByteArray := prog_9_method_59_code
def yX7_count : MethodName := ⟨RX7, "count", "(I)I"⟩
abbrev cX7_trace : ByteArray := prog_9_method_60_code
def yX7_trace : MethodName := ⟨RX7, "trace", "()J"⟩
def RJ6 : String := "java/lang/Integer"
def TJ6 : u_T := fun k => match k with
  | _ => ("", "", "", false)
def tyJ6 : Nat → FieldType := fun k => match k with
  | _ => .int
abbrev wsJ60 : List Cond := u_ws RJ6 TJ6 0
theorem nmJ6 : ∀ a, a < 0 → ∀ b, b < 0 → a ≠ b → (TJ6 a).2.1 ≠ (TJ6 b).2.1 := by decide +kernel
theorem tyJ6_ok : ∀ k, k < 0 → parseFieldDescriptor (TJ6 k).2.2.1 = some (tyJ6 k) := by decide +kernel
abbrev cJ6_bitCount_0f7a4 : ByteArray := prog_10_method_49_code
def yJ6_bitCount_0f7a4 : MethodName := ⟨RJ6, "bitCount", "(I)I"⟩
def RJ9 : String := "java/lang/Math"
def TJ9 : u_T := fun k => match k with
  | _ => ("", "", "", false)
def tyJ9 : Nat → FieldType := fun k => match k with
  | _ => .int
abbrev wsJ90 : List Cond := u_ws RJ9 TJ9 0
theorem nmJ9 : ∀ a, a < 0 → ∀ b, b < 0 → a ≠ b → (TJ9 a).2.1 ≠ (TJ9 b).2.1 := by decide +kernel
theorem tyJ9_ok : ∀ k, k < 0 → parseFieldDescriptor (TJ9 k).2.2.1 = some (tyJ9 k) := by decide +kernel
abbrev cJ9_max_7cf53 : ByteArray := prog_11_method_65_code
def yJ9_max_7cf53 : MethodName := ⟨RJ9, "max", "(II)I"⟩
abbrev cJ9_min_7cf53 : ByteArray := prog_11_method_69_code
def yJ9_min_7cf53 : MethodName := ⟨RJ9, "min", "(II)I"⟩
def RJ10 : String := "java/lang/System"
def TJ10 : u_T := fun k => match k with
  | _ => ("", "", "", false)
def tyJ10 : Nat → FieldType := fun k => match k with
  | _ => .int
abbrev wsJ100 : List Cond := u_ws RJ10 TJ10 0
theorem nmJ10 : ∀ a, a < 0 → ∀ b, b < 0 → a ≠ b → (TJ10 a).2.1 ≠ (TJ10 b).2.1 := by decide +kernel
theorem tyJ10_ok : ∀ k, k < 0 → parseFieldDescriptor (TJ10 k).2.2.1 = some (tyJ10 k) := by decide +kernel
def RL : String := "RoomBornLaw"
abbrev cL_law : ByteArray := code
def yL_law : MethodName := ⟨RL, "law", "([I)Z"⟩
def wsX0_init : List Cond := .code yX0_init cX0_init 1 none :: ([.methodLink RX0 3 objectInit, .instanceMethod objectInit, .code objectInit ⟨#[0xb1]⟩ 1 none, .arrayClass .int, .fieldLink RX0 9 "RoomBorn$Filling" "can" "[I", .classLink RX0 15 "[[I", .fieldLink RX0 17 "RoomBorn$Filling" "most" "[[I", .fieldLink RX0 20 "RoomBorn$Filling" "children" "I", .fieldLink RX0 24 "RoomBorn$Filling" "works" "I"] ++ wsX00)
def wsX6_bit : List Cond := .code yX6_bit cX6_bit 1 (some .int) :: ([])
def wsX6_has : List Cond := .code yX6_has cX6_has 2 (some .boolean) :: ([.methodLink RX6 170 yX6_bit, .static yX6_bit, .initialized RX6, .code yX6_bit cX6_bit 1 (some .int)])
def wsX0_isFree : List Cond := .code yX0_isFree cX0_isFree 4 (some .boolean) :: ([.fieldLink RX0 9 "RoomBorn$Filling" "can" "[I", .static yX6_has, .initialized RX6, .code yX6_has cX6_has 2 (some .boolean), .methodLink RX6 170 yX6_bit, .static yX6_bit, .code yX6_bit cX6_bit 1 (some .int)] ++ wsX00)
def wsX0_mostFrom : List Cond := .code yX0_mostFrom cX0_mostFrom 5 (some .int) :: ([.fieldLink RX0 17 "RoomBorn$Filling" "most" "[[I", .fieldLink RX0 24 "RoomBorn$Filling" "works" "I", .methodLink RX0 39 Lib.Math.max.name, .static Lib.Math.max.name, .initialized "java/lang/Math", .code Lib.Math.max.name Lib.Math.max.code 2 (some .int), .methodLink RX0 35 yX0_isFree, .instanceMethod yX0_isFree, .selects RX0 yX0_isFree yX0_isFree, .initialized RX0, .code yX0_isFree cX0_isFree 4 (some .boolean), .fieldLink RX0 9 "RoomBorn$Filling" "can" "[I", .static yX6_has, .initialized RX6, .code yX6_has cX6_has 2 (some .boolean), .methodLink RX6 170 yX6_bit, .static yX6_bit, .code yX6_bit cX6_bit 1 (some .int)] ++ wsX00)
def wsX0_solve : List Cond := .code yX0_solve cX0_solve 3 (some .int) :: ([.fieldLink RX0 24 "RoomBorn$Filling" "works" "I", .fieldLink RX0 17 "RoomBorn$Filling" "most" "[[I", .fieldLink RX0 20 "RoomBorn$Filling" "children" "I", .static yX6_bit, .initialized RX6, .code yX6_bit cX6_bit 1 (some .int), .methodLink RX0 31 yX0_mostFrom, .instanceMethod yX0_mostFrom, .selects RX0 yX0_mostFrom yX0_mostFrom, .initialized RX0, .code yX0_mostFrom cX0_mostFrom 5 (some .int), .methodLink RX0 39 Lib.Math.max.name, .static Lib.Math.max.name, .initialized "java/lang/Math", .code Lib.Math.max.name Lib.Math.max.code 2 (some .int), .methodLink RX0 35 yX0_isFree, .instanceMethod yX0_isFree, .selects RX0 yX0_isFree yX0_isFree, .code yX0_isFree cX0_isFree 4 (some .boolean), .fieldLink RX0 9 "RoomBorn$Filling" "can" "[I", .static yX6_has, .code yX6_has cX6_has 2 (some .boolean), .methodLink RX6 170 yX6_bit] ++ wsX00)
def wsX0_firstWork : List Cond := .code yX0_firstWork cX0_firstWork 4 (some .int) :: ([.fieldLink RX0 24 "RoomBorn$Filling" "works" "I", .fieldLink RX0 17 "RoomBorn$Filling" "most" "[[I", .methodLink RX0 35 yX0_isFree, .instanceMethod yX0_isFree, .selects RX0 yX0_isFree yX0_isFree, .initialized RX0, .code yX0_isFree cX0_isFree 4 (some .boolean), .fieldLink RX0 9 "RoomBorn$Filling" "can" "[I", .static yX6_has, .initialized RX6, .code yX6_has cX6_has 2 (some .boolean), .methodLink RX6 170 yX6_bit, .static yX6_bit, .code yX6_bit cX6_bit 1 (some .int)] ++ wsX00)
def wsX0_workOf : List Cond := .code yX0_workOf cX0_workOf 5 (some .int) :: ([.methodLink RX0 48 yX0_firstWork, .instanceMethod yX0_firstWork, .selects RX0 yX0_firstWork yX0_firstWork, .initialized RX0, .code yX0_firstWork cX0_firstWork 4 (some .int), .fieldLink RX0 24 "RoomBorn$Filling" "works" "I", .fieldLink RX0 17 "RoomBorn$Filling" "most" "[[I", .methodLink RX0 35 yX0_isFree, .instanceMethod yX0_isFree, .selects RX0 yX0_isFree yX0_isFree, .code yX0_isFree cX0_isFree 4 (some .boolean), .fieldLink RX0 9 "RoomBorn$Filling" "can" "[I", .static yX6_has, .initialized RX6, .code yX6_has cX6_has 2 (some .boolean), .methodLink RX6 170 yX6_bit, .static yX6_bit, .code yX6_bit cX6_bit 1 (some .int)] ++ wsX00)
def wsX1_init : List Cond := .code yX1_init cX1_init 1 none :: ([.methodLink RX1 3 objectInit, .instanceMethod objectInit, .code objectInit ⟨#[0xb1]⟩ 1 none, .arrayClass .int, .fieldLink RX1 9 "RoomBorn$Moment" "old" "[I", .fieldLink RX1 15 "RoomBorn$Moment" "joined" "[I", .fieldLink RX1 18 "RoomBorn$Moment" "age" "[I"] ++ wsX10)
def wsX1_begin : List Cond := .code yX1_begin cX1_begin 3 none :: ([.fieldLink RX1 21 "RoomBorn$Moment" "yearNumber" "I", .fieldLink RX1 25 "RoomBorn$Moment" "born" "I", .fieldLink RX1 28 "RoomBorn$Moment" "living" "I", .fieldLink RX1 9 "RoomBorn$Moment" "old" "[I", .fieldLink RX1 15 "RoomBorn$Moment" "joined" "[I", .static yX6_bit, .initialized RX6, .code yX6_bit cX6_bit 1 (some .int)] ++ wsX10 ++ wsX50)
def wsX1_become : List Cond := .code yX1_become cX1_become 2 none :: ([.fieldLink RX1 21 "RoomBorn$Moment" "yearNumber" "I", .fieldLink RX1 25 "RoomBorn$Moment" "born" "I", .fieldLink RX1 28 "RoomBorn$Moment" "living" "I", .fieldLink RX1 9 "RoomBorn$Moment" "old" "[I", .methodLink RX1 38 arraycopyName, .native arraycopyName, .static arraycopyName, .initialized "java/lang/System", .fieldLink RX1 15 "RoomBorn$Moment" "joined" "[I", .fieldLink RX1 18 "RoomBorn$Moment" "age" "[I"] ++ wsX10)
def wsX1_ageTogether : List Cond := .code yX1_ageTogether cX1_ageTogether 5 (some .int) :: ([.fieldLink RX1 9 "RoomBorn$Moment" "old" "[I", .static yX6_has, .initialized RX6, .code yX6_has cX6_has 2 (some .boolean), .methodLink RX6 170 yX6_bit, .static yX6_bit, .code yX6_bit cX6_bit 1 (some .int)] ++ wsX10)
def wsX1_ageOfRoom : List Cond := .code yX1_ageOfRoom cX1_ageOfRoom 2 (some .int) :: ([.fieldLink RX1 15 "RoomBorn$Moment" "joined" "[I", .methodLink RX1 44 yX1_ageTogether, .instanceMethod yX1_ageTogether, .selects RX1 yX1_ageTogether yX1_ageTogether, .initialized RX1, .code yX1_ageTogether cX1_ageTogether 5 (some .int), .fieldLink RX1 9 "RoomBorn$Moment" "old" "[I", .static yX6_has, .initialized RX6, .code yX6_has cX6_has 2 (some .boolean), .methodLink RX6 170 yX6_bit, .static yX6_bit, .code yX6_bit cX6_bit 1 (some .int)] ++ wsX10)
def wsX1_bear : List Cond := .code yX1_bear cX1_bear 4 (some .int) :: ([.fieldLink RX1 18 "RoomBorn$Moment" "age" "[I", .fieldLink RX1 25 "RoomBorn$Moment" "born" "I", .fieldLink RX1 28 "RoomBorn$Moment" "living" "I", .methodLink RX1 51 yX1_ageOfRoom, .instanceMethod yX1_ageOfRoom, .selects RX1 yX1_ageOfRoom yX1_ageOfRoom, .initialized RX1, .code yX1_ageOfRoom cX1_ageOfRoom 2 (some .int), .fieldLink RX1 15 "RoomBorn$Moment" "joined" "[I", .methodLink RX1 44 yX1_ageTogether, .instanceMethod yX1_ageTogether, .selects RX1 yX1_ageTogether yX1_ageTogether, .code yX1_ageTogether cX1_ageTogether 5 (some .int), .fieldLink RX1 9 "RoomBorn$Moment" "old" "[I", .static yX6_has, .initialized RX6, .code yX6_has cX6_has 2 (some .boolean), .methodLink RX6 170 yX6_bit, .static yX6_bit, .code yX6_bit cX6_bit 1 (some .int)] ++ wsX10)
def wsX1_passYear : List Cond := .code yX1_passYear cX1_passYear 4 (some .int) :: ([.fieldLink RX1 21 "RoomBorn$Moment" "yearNumber" "I", .fieldLink RX1 9 "RoomBorn$Moment" "old" "[I", .fieldLink RX1 28 "RoomBorn$Moment" "living" "I", .fieldLink RX1 18 "RoomBorn$Moment" "age" "[I", .static yX6_has, .initialized RX6, .code yX6_has cX6_has 2 (some .boolean), .methodLink RX6 170 yX6_bit, .static yX6_bit, .code yX6_bit cX6_bit 1 (some .int)] ++ wsX10 ++ wsX50)
def wsX1_knockThrough : List Cond := .code yX1_knockThrough cX1_knockThrough 5 none :: ([.fieldLink RX1 15 "RoomBorn$Moment" "joined" "[I", .static yX6_has, .initialized RX6, .code yX6_has cX6_has 2 (some .boolean), .methodLink RX6 170 yX6_bit, .static yX6_bit, .code yX6_bit cX6_bit 1 (some .int)] ++ wsX10)
def wsX1_buildAnew : List Cond := .code yX1_buildAnew cX1_buildAnew 3 none :: ([.fieldLink RX1 15 "RoomBorn$Moment" "joined" "[I", .fieldLink RX1 9 "RoomBorn$Moment" "old" "[I", .static yX6_bit, .initialized RX6, .code yX6_bit cX6_bit 1 (some .int)] ++ wsX10)
def wsX1_howManyAheadOf : List Cond := .code yX1_howManyAheadOf cX1_howManyAheadOf 5 (some .int) :: ([.fieldLink RX1 18 "RoomBorn$Moment" "age" "[I", .fieldLink RX1 28 "RoomBorn$Moment" "living" "I", .static yX6_has, .initialized RX6, .code yX6_has cX6_has 2 (some .boolean), .methodLink RX6 170 yX6_bit, .static yX6_bit, .code yX6_bit cX6_bit 1 (some .int)] ++ wsX10)
def wsX2_init : List Cond := .code yX2_init cX2_init 2 none :: ([.methodLink RX2 3 objectInit, .instanceMethod objectInit, .code objectInit ⟨#[0xb1]⟩ 1 none, .classLink RX2 9 RX1, .fieldLink RX2 11 "RoomBorn$Past" "moments" "[LRoomBorn$Moment;", .fieldLink RX2 17 "RoomBorn$Past" "free" "I", .fieldLink RX2 21 "RoomBorn$Past" "known" "I", .instantiable RX1 6, .initialized RX1, .instanceMethod yX1_init, .code yX1_init cX1_init 1 none, .methodLink RX1 3 objectInit, .arrayClass .int, .fieldLink RX1 9 "RoomBorn$Moment" "old" "[I", .fieldLink RX1 15 "RoomBorn$Moment" "joined" "[I", .fieldLink RX1 18 "RoomBorn$Moment" "age" "[I"] ++ wsX20 ++ wsX10)
def wsX2_remember : List Cond := .code yX2_remember cX2_remember 2 none :: ([.fieldLink RX2 11 "RoomBorn$Past" "moments" "[LRoomBorn$Moment;", .fieldLink RX2 17 "RoomBorn$Past" "free" "I", .fieldLink RX2 21 "RoomBorn$Past" "known" "I", .methodLink RX2 29 Lib.Math.min.name, .static Lib.Math.min.name, .initialized "java/lang/Math", .code Lib.Math.min.name Lib.Math.min.code 2 (some .int), .instanceMethod yX1_become, .initialized RX1, .selects RX1 yX1_become yX1_become, .code yX1_become cX1_become 2 none, .fieldLink RX1 21 "RoomBorn$Moment" "yearNumber" "I", .fieldLink RX1 25 "RoomBorn$Moment" "born" "I", .fieldLink RX1 28 "RoomBorn$Moment" "living" "I", .fieldLink RX1 9 "RoomBorn$Moment" "old" "[I", .methodLink RX1 38 arraycopyName, .native arraycopyName, .static arraycopyName, .initialized "java/lang/System", .fieldLink RX1 15 "RoomBorn$Moment" "joined" "[I", .fieldLink RX1 18 "RoomBorn$Moment" "age" "[I"] ++ wsX20 ++ wsX10)
def wsX2_restore : List Cond := .code yX2_restore cX2_restore 2 none :: ([.fieldLink RX2 17 "RoomBorn$Past" "free" "I", .fieldLink RX2 21 "RoomBorn$Past" "known" "I", .fieldLink RX2 11 "RoomBorn$Past" "moments" "[LRoomBorn$Moment;", .instanceMethod yX1_become, .initialized RX1, .selects RX1 yX1_become yX1_become, .code yX1_become cX1_become 2 none, .fieldLink RX1 21 "RoomBorn$Moment" "yearNumber" "I", .fieldLink RX1 25 "RoomBorn$Moment" "born" "I", .fieldLink RX1 28 "RoomBorn$Moment" "living" "I", .fieldLink RX1 9 "RoomBorn$Moment" "old" "[I", .methodLink RX1 38 arraycopyName, .native arraycopyName, .static arraycopyName, .initialized "java/lang/System", .fieldLink RX1 15 "RoomBorn$Moment" "joined" "[I", .fieldLink RX1 18 "RoomBorn$Moment" "age" "[I"] ++ wsX20 ++ wsX10)
def wsX3_init : List Cond := .code yX3_init cX3_init 1 none :: ([.methodLink RX3 3 objectInit, .instanceMethod objectInit, .code objectInit ⟨#[0xb1]⟩ 1 none, .arrayClass .int, .fieldLink RX3 9 "RoomBorn$Seen" "works" "[I", .arrayClass .boolean, .fieldLink RX3 15 "RoomBorn$Seen" "could" "[Z", .fieldLink RX3 19 "RoomBorn$Seen" "known" "I"] ++ wsX30)
def wsX3_add : List Cond := .code yX3_add cX3_add 3 none :: ([.fieldLink RX3 9 "RoomBorn$Seen" "works" "[I", .fieldLink RX3 19 "RoomBorn$Seen" "known" "I", .fieldLink RX3 15 "RoomBorn$Seen" "could" "[Z"] ++ wsX30)
def wsX5_spans : List Cond := .code yX5_spans cX5_spans 3 (some .boolean) :: ([.fieldLink RX5 15 "RoomBorn$Told" "low" "[I", .fieldLink RX5 18 "RoomBorn$Told" "high" "[I"] ++ wsX50)
def wsX3_allows : List Cond := .code yX3_allows cX3_allows 4 (some .boolean) :: ([.fieldLink RX3 19 "RoomBorn$Seen" "known" "I", .fieldLink RX3 9 "RoomBorn$Seen" "works" "[I", .fieldLink RX3 15 "RoomBorn$Seen" "could" "[Z", .instanceMethod yX5_spans, .initialized RX5, .selects RX5 yX5_spans yX5_spans, .code yX5_spans cX5_spans 3 (some .boolean), .fieldLink RX5 15 "RoomBorn$Told" "low" "[I", .fieldLink RX5 18 "RoomBorn$Told" "high" "[I"] ++ wsX30 ++ wsX50)
def wsX4_init : List Cond := .code yX4_init cX4_init 1 none :: ([.methodLink RX4 3 objectInit, .instanceMethod objectInit, .code objectInit ⟨#[0xb1]⟩ 1 none, .arrayClass .int, .fieldLink RX4 9 "RoomBorn$Text" "letters" "[I", .fieldLink RX4 15 "RoomBorn$Text" "length" "I"] ++ wsX40)
def wsX4_add : List Cond := .code yX4_add cX4_add 2 none :: ([.fieldLink RX4 9 "RoomBorn$Text" "letters" "[I", .fieldLink RX4 15 "RoomBorn$Text" "length" "I"] ++ wsX40)
def wsX5_tellNothing : List Cond := .code yX5_tellNothing cX5_tellNothing 1 none :: ([.fieldLink RX5 24 "RoomBorn$Told" "items" "I", .fieldLink RX5 28 "RoomBorn$Told" "rooms" "I", .fieldLink RX5 31 "RoomBorn$Told" "mothers" "I", .fieldLink RX5 34 "RoomBorn$Told" "works" "I", .fieldLink RX5 37 "RoomBorn$Told" "life" "I"] ++ wsX50)
def wsX4_isDigit : List Cond := .code yX4_isDigit cX4_isDigit 1 (some .boolean) :: ([])
def wsX4_readDigits : List Cond := .code yX4_readDigits cX4_readDigits 2 none :: ([.fieldLink RX4 9 "RoomBorn$Text" "letters" "[I", .fieldLink RX4 19 "RoomBorn$Text" "place" "I", .fieldLink RX4 73 "RoomBorn$Text" "value" "I", .fieldLink RX4 15 "RoomBorn$Text" "length" "I", .methodLink RX4 101 Lib.Math.min.name, .static Lib.Math.min.name, .initialized "java/lang/Math", .code Lib.Math.min.name Lib.Math.min.code 2 (some .int), .fieldLink RX4 91 "RoomBorn$Text" "start" "I", .methodLink RX4 94 yX4_isDigit, .static yX4_isDigit, .initialized RX4, .code yX4_isDigit cX4_isDigit 1 (some .boolean)] ++ wsX40)
def wsX4_readToken : List Cond := .code yX4_readToken cX4_readToken 1 none :: ([.fieldLink RX4 19 "RoomBorn$Text" "place" "I", .fieldLink RX4 15 "RoomBorn$Text" "length" "I", .fieldLink RX4 9 "RoomBorn$Text" "letters" "[I", .fieldLink RX4 91 "RoomBorn$Text" "start" "I", .fieldLink RX4 37 "RoomBorn$Text" "token" "I", .methodLink RX4 94 yX4_isDigit, .static yX4_isDigit, .initialized RX4, .code yX4_isDigit cX4_isDigit 1 (some .boolean), .methodLink RX4 98 yX4_readDigits, .instanceMethod yX4_readDigits, .selects RX4 yX4_readDigits yX4_readDigits, .code yX4_readDigits cX4_readDigits 2 none, .fieldLink RX4 73 "RoomBorn$Text" "value" "I", .methodLink RX4 101 Lib.Math.min.name, .static Lib.Math.min.name, .initialized "java/lang/Math", .code Lib.Math.min.name Lib.Math.min.code 2 (some .int)] ++ wsX40)
def wsX4_readsNumber : List Cond := .code yX4_readsNumber cX4_readsNumber 3 (some .boolean) :: ([.fieldLink RX4 37 "RoomBorn$Text" "token" "I", .fieldLink RX4 73 "RoomBorn$Text" "value" "I", .methodLink RX4 34 yX4_readToken, .instanceMethod yX4_readToken, .selects RX4 yX4_readToken yX4_readToken, .initialized RX4, .code yX4_readToken cX4_readToken 1 none, .fieldLink RX4 19 "RoomBorn$Text" "place" "I", .fieldLink RX4 15 "RoomBorn$Text" "length" "I", .fieldLink RX4 9 "RoomBorn$Text" "letters" "[I", .fieldLink RX4 91 "RoomBorn$Text" "start" "I", .methodLink RX4 94 yX4_isDigit, .static yX4_isDigit, .code yX4_isDigit cX4_isDigit 1 (some .boolean), .methodLink RX4 98 yX4_readDigits, .instanceMethod yX4_readDigits, .selects RX4 yX4_readDigits yX4_readDigits, .code yX4_readDigits cX4_readDigits 2 none, .methodLink RX4 101 Lib.Math.min.name, .static Lib.Math.min.name, .initialized "java/lang/Math", .code Lib.Math.min.name Lib.Math.min.code 2 (some .int)] ++ wsX40)
def wsX4_readsRoom_r1 : List Cond := [Cond.fieldLink RX4 73 "RoomBorn$Text" "value" "I", Cond.methodLink RX4 66 yX4_readsNumber, Cond.instanceMethod yX4_readsNumber, Cond.selects RX4 yX4_readsNumber yX4_readsNumber, Cond.initialized RX4, Cond.code yX4_readsNumber cX4_readsNumber 3 (some .boolean), Cond.fieldLink RX4 37 "RoomBorn$Text" "token" "I", Cond.methodLink RX4 34 yX4_readToken, Cond.instanceMethod yX4_readToken, Cond.selects RX4 yX4_readToken yX4_readToken, Cond.code yX4_readToken cX4_readToken 1 none, Cond.fieldLink RX4 19 "RoomBorn$Text" "place" "I", Cond.fieldLink RX4 15 "RoomBorn$Text" "length" "I", Cond.fieldLink RX4 9 "RoomBorn$Text" "letters" "[I", Cond.fieldLink RX4 91 "RoomBorn$Text" "start" "I", Cond.methodLink RX4 94 yX4_isDigit, Cond.static yX4_isDigit, Cond.code yX4_isDigit cX4_isDigit 1 (some .boolean), Cond.methodLink RX4 98 yX4_readDigits, Cond.instanceMethod yX4_readDigits, Cond.selects RX4 yX4_readDigits yX4_readDigits, Cond.code yX4_readDigits cX4_readDigits 2 none, Cond.methodLink RX4 101 Lib.Math.min.name, Cond.static Lib.Math.min.name]
def wsX4_readsRoom_r2 : List Cond := [Cond.initialized "java/lang/Math", Cond.code Lib.Math.min.name Lib.Math.min.code 2 (some .int)]
def wsX4_readsRoom : List Cond := .code yX4_readsRoom cX4_readsRoom 2 (some .boolean) :: ((wsX4_readsRoom_r1 ++ wsX4_readsRoom_r2) ++ wsX50 ++ wsX40)
def wsX4_readsWork_r1 : List Cond := [Cond.fieldLink RX4 73 "RoomBorn$Text" "value" "I", Cond.methodLink RX4 66 yX4_readsNumber, Cond.instanceMethod yX4_readsNumber, Cond.selects RX4 yX4_readsNumber yX4_readsNumber, Cond.initialized RX4, Cond.code yX4_readsNumber cX4_readsNumber 3 (some .boolean), Cond.fieldLink RX4 37 "RoomBorn$Text" "token" "I", Cond.methodLink RX4 34 yX4_readToken, Cond.instanceMethod yX4_readToken, Cond.selects RX4 yX4_readToken yX4_readToken, Cond.code yX4_readToken cX4_readToken 1 none, Cond.fieldLink RX4 19 "RoomBorn$Text" "place" "I", Cond.fieldLink RX4 15 "RoomBorn$Text" "length" "I", Cond.fieldLink RX4 9 "RoomBorn$Text" "letters" "[I", Cond.fieldLink RX4 91 "RoomBorn$Text" "start" "I", Cond.methodLink RX4 94 yX4_isDigit, Cond.static yX4_isDigit, Cond.code yX4_isDigit cX4_isDigit 1 (some .boolean), Cond.methodLink RX4 98 yX4_readDigits, Cond.instanceMethod yX4_readDigits, Cond.selects RX4 yX4_readDigits yX4_readDigits, Cond.code yX4_readDigits cX4_readDigits 2 none, Cond.methodLink RX4 101 Lib.Math.min.name, Cond.static Lib.Math.min.name]
def wsX4_readsWork_r2 : List Cond := [Cond.initialized "java/lang/Math", Cond.code Lib.Math.min.name Lib.Math.min.code 2 (some .int)]
def wsX4_readsWork : List Cond := .code yX4_readsWork cX4_readsWork 3 (some .boolean) :: ((wsX4_readsWork_r1 ++ wsX4_readsWork_r2) ++ wsX50 ++ wsX40)
def wsX4_readsMothers_r1 : List Cond := [Cond.fieldLink RX4 22 "RoomBorn$Text" "mothersTold" "Z", Cond.fieldLink RX4 73 "RoomBorn$Text" "value" "I", Cond.methodLink RX4 66 yX4_readsNumber, Cond.instanceMethod yX4_readsNumber, Cond.selects RX4 yX4_readsNumber yX4_readsNumber, Cond.initialized RX4, Cond.code yX4_readsNumber cX4_readsNumber 3 (some .boolean), Cond.fieldLink RX4 37 "RoomBorn$Text" "token" "I", Cond.methodLink RX4 34 yX4_readToken, Cond.instanceMethod yX4_readToken, Cond.selects RX4 yX4_readToken yX4_readToken, Cond.code yX4_readToken cX4_readToken 1 none, Cond.fieldLink RX4 19 "RoomBorn$Text" "place" "I", Cond.fieldLink RX4 15 "RoomBorn$Text" "length" "I", Cond.fieldLink RX4 9 "RoomBorn$Text" "letters" "[I", Cond.fieldLink RX4 91 "RoomBorn$Text" "start" "I", Cond.methodLink RX4 94 yX4_isDigit, Cond.static yX4_isDigit, Cond.code yX4_isDigit cX4_isDigit 1 (some .boolean), Cond.methodLink RX4 98 yX4_readDigits, Cond.instanceMethod yX4_readDigits, Cond.selects RX4 yX4_readDigits yX4_readDigits, Cond.code yX4_readDigits cX4_readDigits 2 none, Cond.methodLink RX4 101 Lib.Math.min.name]
def wsX4_readsMothers_r2 : List Cond := [Cond.static Lib.Math.min.name, Cond.initialized "java/lang/Math", Cond.code Lib.Math.min.name Lib.Math.min.code 2 (some .int)]
def wsX4_readsMothers : List Cond := .code yX4_readsMothers cX4_readsMothers 2 (some .boolean) :: ((wsX4_readsMothers_r1 ++ wsX4_readsMothers_r2) ++ wsX40 ++ wsX50)
def wsX4_readsLife_r1 : List Cond := [Cond.fieldLink RX4 26 "RoomBorn$Text" "lifeTold" "Z", Cond.fieldLink RX4 73 "RoomBorn$Text" "value" "I", Cond.methodLink RX4 66 yX4_readsNumber, Cond.instanceMethod yX4_readsNumber, Cond.selects RX4 yX4_readsNumber yX4_readsNumber, Cond.initialized RX4, Cond.code yX4_readsNumber cX4_readsNumber 3 (some .boolean), Cond.fieldLink RX4 37 "RoomBorn$Text" "token" "I", Cond.methodLink RX4 34 yX4_readToken, Cond.instanceMethod yX4_readToken, Cond.selects RX4 yX4_readToken yX4_readToken, Cond.code yX4_readToken cX4_readToken 1 none, Cond.fieldLink RX4 19 "RoomBorn$Text" "place" "I", Cond.fieldLink RX4 15 "RoomBorn$Text" "length" "I", Cond.fieldLink RX4 9 "RoomBorn$Text" "letters" "[I", Cond.fieldLink RX4 91 "RoomBorn$Text" "start" "I", Cond.methodLink RX4 94 yX4_isDigit, Cond.static yX4_isDigit, Cond.code yX4_isDigit cX4_isDigit 1 (some .boolean), Cond.methodLink RX4 98 yX4_readDigits, Cond.instanceMethod yX4_readDigits, Cond.selects RX4 yX4_readDigits yX4_readDigits, Cond.code yX4_readDigits cX4_readDigits 2 none, Cond.methodLink RX4 101 Lib.Math.min.name]
def wsX4_readsLife_r2 : List Cond := [Cond.static Lib.Math.min.name, Cond.initialized "java/lang/Math", Cond.code Lib.Math.min.name Lib.Math.min.code 2 (some .int)]
def wsX4_readsLife : List Cond := .code yX4_readsLife cX4_readsLife 2 (some .boolean) :: ((wsX4_readsLife_r1 ++ wsX4_readsLife_r2) ++ wsX40 ++ wsX50)
def wsX4_readsItem_r1 : List Cond := [Cond.fieldLink RX4 37 "RoomBorn$Text" "token" "I", Cond.methodLink RX4 51 yX4_readsRoom, Cond.instanceMethod yX4_readsRoom, Cond.selects RX4 yX4_readsRoom yX4_readsRoom, Cond.initialized RX4, Cond.code yX4_readsRoom cX4_readsRoom 2 (some .boolean), Cond.fieldLink RX4 73 "RoomBorn$Text" "value" "I", Cond.methodLink RX4 66 yX4_readsNumber, Cond.instanceMethod yX4_readsNumber, Cond.selects RX4 yX4_readsNumber yX4_readsNumber, Cond.code yX4_readsNumber cX4_readsNumber 3 (some .boolean), Cond.methodLink RX4 34 yX4_readToken, Cond.instanceMethod yX4_readToken, Cond.selects RX4 yX4_readToken yX4_readToken, Cond.code yX4_readToken cX4_readToken 1 none, Cond.fieldLink RX4 19 "RoomBorn$Text" "place" "I", Cond.fieldLink RX4 15 "RoomBorn$Text" "length" "I", Cond.fieldLink RX4 9 "RoomBorn$Text" "letters" "[I", Cond.fieldLink RX4 91 "RoomBorn$Text" "start" "I", Cond.methodLink RX4 94 yX4_isDigit, Cond.static yX4_isDigit, Cond.code yX4_isDigit cX4_isDigit 1 (some .boolean), Cond.methodLink RX4 98 yX4_readDigits, Cond.instanceMethod yX4_readDigits]
def wsX4_readsItem_r2 : List Cond := [Cond.selects RX4 yX4_readDigits yX4_readDigits, Cond.code yX4_readDigits cX4_readDigits 2 none, Cond.methodLink RX4 101 Lib.Math.min.name, Cond.static Lib.Math.min.name, Cond.initialized "java/lang/Math", Cond.code Lib.Math.min.name Lib.Math.min.code 2 (some .int), Cond.methodLink RX4 54 yX4_readsWork, Cond.instanceMethod yX4_readsWork, Cond.selects RX4 yX4_readsWork yX4_readsWork, Cond.code yX4_readsWork cX4_readsWork 3 (some .boolean), Cond.methodLink RX4 57 yX4_readsMothers, Cond.instanceMethod yX4_readsMothers, Cond.selects RX4 yX4_readsMothers yX4_readsMothers, Cond.code yX4_readsMothers cX4_readsMothers 2 (some .boolean), Cond.fieldLink RX4 22 "RoomBorn$Text" "mothersTold" "Z", Cond.methodLink RX4 60 yX4_readsLife, Cond.instanceMethod yX4_readsLife, Cond.selects RX4 yX4_readsLife yX4_readsLife, Cond.code yX4_readsLife cX4_readsLife 2 (some .boolean), Cond.fieldLink RX4 26 "RoomBorn$Text" "lifeTold" "Z"]
def wsX4_readsItem : List Cond := .code yX4_readsItem cX4_readsItem 2 (some .boolean) :: ((wsX4_readsItem_r1 ++ wsX4_readsItem_r2) ++ wsX40 ++ wsX50)
def wsX4_readsItemEnd : List Cond := .code yX4_readsItemEnd cX4_readsItemEnd 1 (some .boolean) :: ([.fieldLink RX4 37 "RoomBorn$Text" "token" "I", .methodLink RX4 34 yX4_readToken, .instanceMethod yX4_readToken, .selects RX4 yX4_readToken yX4_readToken, .initialized RX4, .code yX4_readToken cX4_readToken 1 none, .fieldLink RX4 19 "RoomBorn$Text" "place" "I", .fieldLink RX4 15 "RoomBorn$Text" "length" "I", .fieldLink RX4 9 "RoomBorn$Text" "letters" "[I", .fieldLink RX4 91 "RoomBorn$Text" "start" "I", .methodLink RX4 94 yX4_isDigit, .static yX4_isDigit, .code yX4_isDigit cX4_isDigit 1 (some .boolean), .methodLink RX4 98 yX4_readDigits, .instanceMethod yX4_readDigits, .selects RX4 yX4_readDigits yX4_readDigits, .code yX4_readDigits cX4_readDigits 2 none, .fieldLink RX4 73 "RoomBorn$Text" "value" "I", .methodLink RX4 101 Lib.Math.min.name, .static Lib.Math.min.name, .initialized "java/lang/Math", .code Lib.Math.min.name Lib.Math.min.code 2 (some .int)] ++ wsX40)
def wsX4_reads_r1 : List Cond := [Cond.fieldLink RX4 19 "RoomBorn$Text" "place" "I", Cond.fieldLink RX4 22 "RoomBorn$Text" "mothersTold" "Z", Cond.fieldLink RX4 26 "RoomBorn$Text" "lifeTold" "Z", Cond.fieldLink RX4 15 "RoomBorn$Text" "length" "I", Cond.fieldLink RX4 37 "RoomBorn$Text" "token" "I", Cond.instanceMethod yX5_tellNothing, Cond.initialized RX5, Cond.selects RX5 yX5_tellNothing yX5_tellNothing, Cond.code yX5_tellNothing cX5_tellNothing 1 none, Cond.fieldLink RX5 24 "RoomBorn$Told" "items" "I", Cond.fieldLink RX5 28 "RoomBorn$Told" "rooms" "I", Cond.fieldLink RX5 31 "RoomBorn$Told" "mothers" "I", Cond.fieldLink RX5 34 "RoomBorn$Told" "works" "I", Cond.fieldLink RX5 37 "RoomBorn$Told" "life" "I", Cond.methodLink RX4 34 yX4_readToken, Cond.instanceMethod yX4_readToken, Cond.selects RX4 yX4_readToken yX4_readToken, Cond.initialized RX4, Cond.code yX4_readToken cX4_readToken 1 none, Cond.fieldLink RX4 9 "RoomBorn$Text" "letters" "[I", Cond.fieldLink RX4 91 "RoomBorn$Text" "start" "I", Cond.methodLink RX4 94 yX4_isDigit, Cond.static yX4_isDigit, Cond.code yX4_isDigit cX4_isDigit 1 (some .boolean)]
def wsX4_reads_r2 : List Cond := [Cond.methodLink RX4 98 yX4_readDigits, Cond.instanceMethod yX4_readDigits, Cond.selects RX4 yX4_readDigits yX4_readDigits, Cond.code yX4_readDigits cX4_readDigits 2 none, Cond.fieldLink RX4 73 "RoomBorn$Text" "value" "I", Cond.methodLink RX4 101 Lib.Math.min.name, Cond.static Lib.Math.min.name, Cond.initialized "java/lang/Math", Cond.code Lib.Math.min.name Lib.Math.min.code 2 (some .int), Cond.methodLink RX4 40 yX4_readsItem, Cond.instanceMethod yX4_readsItem, Cond.selects RX4 yX4_readsItem yX4_readsItem, Cond.code yX4_readsItem cX4_readsItem 2 (some .boolean), Cond.methodLink RX4 51 yX4_readsRoom, Cond.instanceMethod yX4_readsRoom, Cond.selects RX4 yX4_readsRoom yX4_readsRoom, Cond.code yX4_readsRoom cX4_readsRoom 2 (some .boolean), Cond.methodLink RX4 66 yX4_readsNumber, Cond.instanceMethod yX4_readsNumber, Cond.selects RX4 yX4_readsNumber yX4_readsNumber, Cond.code yX4_readsNumber cX4_readsNumber 3 (some .boolean), Cond.methodLink RX4 54 yX4_readsWork, Cond.instanceMethod yX4_readsWork, Cond.selects RX4 yX4_readsWork yX4_readsWork]
def wsX4_reads_r3 : List Cond := [Cond.code yX4_readsWork cX4_readsWork 3 (some .boolean), Cond.methodLink RX4 57 yX4_readsMothers, Cond.instanceMethod yX4_readsMothers, Cond.selects RX4 yX4_readsMothers yX4_readsMothers, Cond.code yX4_readsMothers cX4_readsMothers 2 (some .boolean), Cond.methodLink RX4 60 yX4_readsLife, Cond.instanceMethod yX4_readsLife, Cond.selects RX4 yX4_readsLife yX4_readsLife, Cond.code yX4_readsLife cX4_readsLife 2 (some .boolean), Cond.methodLink RX4 44 yX4_readsItemEnd, Cond.instanceMethod yX4_readsItemEnd, Cond.selects RX4 yX4_readsItemEnd yX4_readsItemEnd, Cond.code yX4_readsItemEnd cX4_readsItemEnd 1 (some .boolean)]
def wsX4_reads : List Cond := .code yX4_reads cX4_reads 3 (some .boolean) :: ((wsX4_reads_r1 ++ (wsX4_reads_r2 ++ wsX4_reads_r3)) ++ wsX40 ++ wsX50)
def wsX5_init : List Cond := .code yX5_init cX5_init 1 none :: ([.methodLink RX5 3 objectInit, .instanceMethod objectInit, .code objectInit ⟨#[0xb1]⟩ 1 none, .arrayClass .int, .fieldLink RX5 9 "RoomBorn$Told" "old" "[I", .fieldLink RX5 15 "RoomBorn$Told" "low" "[I", .fieldLink RX5 18 "RoomBorn$Told" "high" "[I", .methodLink RX5 21 yX5_tellNothing, .instanceMethod yX5_tellNothing, .selects RX5 yX5_tellNothing yX5_tellNothing, .initialized RX5, .code yX5_tellNothing cX5_tellNothing 1 none, .fieldLink RX5 24 "RoomBorn$Told" "items" "I", .fieldLink RX5 28 "RoomBorn$Told" "rooms" "I", .fieldLink RX5 31 "RoomBorn$Told" "mothers" "I", .fieldLink RX5 34 "RoomBorn$Told" "works" "I", .fieldLink RX5 37 "RoomBorn$Told" "life" "I"] ++ wsX50)
def wsX5_does : List Cond := .code yX5_does cX5_does 3 (some .boolean) :: ([.fieldLink RX5 37 "RoomBorn$Told" "life" "I", .methodLink RX5 40 yX5_spans, .instanceMethod yX5_spans, .selects RX5 yX5_spans yX5_spans, .initialized RX5, .code yX5_spans cX5_spans 3 (some .boolean), .fieldLink RX5 15 "RoomBorn$Told" "low" "[I", .fieldLink RX5 18 "RoomBorn$Told" "high" "[I"] ++ wsX50)
def wsX5_worksAt : List Cond := .code yX5_worksAt cX5_worksAt 4 (some .int) :: ([.fieldLink RX5 34 "RoomBorn$Told" "works" "I", .methodLink RX5 44 yX5_does, .instanceMethod yX5_does, .selects RX5 yX5_does yX5_does, .initialized RX5, .code yX5_does cX5_does 3 (some .boolean), .fieldLink RX5 37 "RoomBorn$Told" "life" "I", .methodLink RX5 40 yX5_spans, .instanceMethod yX5_spans, .selects RX5 yX5_spans yX5_spans, .code yX5_spans cX5_spans 3 (some .boolean), .fieldLink RX5 15 "RoomBorn$Told" "low" "[I", .fieldLink RX5 18 "RoomBorn$Told" "high" "[I", .static yX6_bit, .initialized RX6, .code yX6_bit cX6_bit 1 (some .int)] ++ wsX50)
def wsX6_init_r1 : List Cond := [Cond.methodLink RX6 1 objectInit, Cond.instanceMethod objectInit, Cond.code objectInit ⟨#[0xb1]⟩ 1 none, Cond.classLink RX6 7 RX4, Cond.instantiable RX4 8, Cond.initialized RX4, Cond.fieldLink RX6 10 "RoomBorn" "text" "LRoomBorn$Text;", Cond.classLink RX6 16 RX1, Cond.instantiable RX1 6, Cond.initialized RX1, Cond.fieldLink RX6 19 "RoomBorn" "today" "LRoomBorn$Moment;", Cond.classLink RX6 23 RX2, Cond.instantiable RX2 3, Cond.initialized RX2, Cond.fieldLink RX6 26 "RoomBorn" "past" "LRoomBorn$Past;", Cond.fieldLink RX6 30 "RoomBorn" "images" "[LRoomBorn$Moment;", Cond.arrayClass .boolean, Cond.fieldLink RX6 34 "RoomBorn" "kept" "[Z", Cond.classLink RX6 38 RX0, Cond.instantiable RX0 4, Cond.initialized RX0, Cond.fieldLink RX6 41 "RoomBorn" "filling" "LRoomBorn$Filling;", Cond.classLink RX6 45 RX3, Cond.instantiable RX3 3]
def wsX6_init_r2 : List Cond := [Cond.initialized RX3, Cond.fieldLink RX6 48 "RoomBorn" "seen" "LRoomBorn$Seen;", Cond.classLink RX6 52 RX5, Cond.instantiable RX5 8, Cond.initialized RX5, Cond.fieldLink RX6 55 "RoomBorn" "told" "LRoomBorn$Told;", Cond.fieldLink RX6 59 "RoomBorn" "draft" "LRoomBorn$Told;", Cond.fieldLink RX6 62 "RoomBorn" "traced" "J", Cond.instanceMethod yX4_init, Cond.code yX4_init cX4_init 1 none, Cond.methodLink RX4 3 objectInit, Cond.arrayClass .int, Cond.fieldLink RX4 9 "RoomBorn$Text" "letters" "[I", Cond.fieldLink RX4 15 "RoomBorn$Text" "length" "I", Cond.instanceMethod yX1_init, Cond.code yX1_init cX1_init 1 none, Cond.methodLink RX1 3 objectInit, Cond.fieldLink RX1 9 "RoomBorn$Moment" "old" "[I", Cond.fieldLink RX1 15 "RoomBorn$Moment" "joined" "[I", Cond.fieldLink RX1 18 "RoomBorn$Moment" "age" "[I", Cond.instanceMethod yX2_init, Cond.code yX2_init cX2_init 2 none, Cond.methodLink RX2 3 objectInit, Cond.classLink RX2 9 RX1]
def wsX6_init_r3 : List Cond := [Cond.fieldLink RX2 11 "RoomBorn$Past" "moments" "[LRoomBorn$Moment;", Cond.fieldLink RX2 17 "RoomBorn$Past" "free" "I", Cond.fieldLink RX2 21 "RoomBorn$Past" "known" "I", Cond.instanceMethod yX0_init, Cond.code yX0_init cX0_init 1 none, Cond.methodLink RX0 3 objectInit, Cond.fieldLink RX0 9 "RoomBorn$Filling" "can" "[I", Cond.classLink RX0 15 "[[I", Cond.fieldLink RX0 17 "RoomBorn$Filling" "most" "[[I", Cond.fieldLink RX0 20 "RoomBorn$Filling" "children" "I", Cond.fieldLink RX0 24 "RoomBorn$Filling" "works" "I", Cond.instanceMethod yX3_init, Cond.code yX3_init cX3_init 1 none, Cond.methodLink RX3 3 objectInit, Cond.fieldLink RX3 9 "RoomBorn$Seen" "works" "[I", Cond.fieldLink RX3 15 "RoomBorn$Seen" "could" "[Z", Cond.fieldLink RX3 19 "RoomBorn$Seen" "known" "I", Cond.instanceMethod yX5_init, Cond.code yX5_init cX5_init 1 none, Cond.methodLink RX5 3 objectInit, Cond.fieldLink RX5 9 "RoomBorn$Told" "old" "[I", Cond.fieldLink RX5 15 "RoomBorn$Told" "low" "[I", Cond.fieldLink RX5 18 "RoomBorn$Told" "high" "[I", Cond.methodLink RX5 21 yX5_tellNothing]
def wsX6_init_r4 : List Cond := [Cond.instanceMethod yX5_tellNothing, Cond.selects RX5 yX5_tellNothing yX5_tellNothing, Cond.code yX5_tellNothing cX5_tellNothing 1 none, Cond.fieldLink RX5 24 "RoomBorn$Told" "items" "I", Cond.fieldLink RX5 28 "RoomBorn$Told" "rooms" "I", Cond.fieldLink RX5 31 "RoomBorn$Told" "mothers" "I", Cond.fieldLink RX5 34 "RoomBorn$Told" "works" "I", Cond.fieldLink RX5 37 "RoomBorn$Told" "life" "I", Cond.instanceMethod yX1_begin, Cond.selects RX1 yX1_begin yX1_begin, Cond.code yX1_begin cX1_begin 3 none, Cond.fieldLink RX1 21 "RoomBorn$Moment" "yearNumber" "I", Cond.fieldLink RX1 25 "RoomBorn$Moment" "born" "I", Cond.fieldLink RX1 28 "RoomBorn$Moment" "living" "I", Cond.static yX6_bit, Cond.initialized RX6, Cond.code yX6_bit cX6_bit 1 (some .int)]
def wsX6_init : List Cond := .code yX6_init cX6_init 2 none :: ((wsX6_init_r1 ++ (wsX6_init_r2 ++ (wsX6_init_r3 ++ wsX6_init_r4))) ++ wsX40 ++ wsX60 ++ wsX10 ++ wsX20 ++ wsX00 ++ wsX30 ++ wsX50)
def wsX6_type : List Cond := .code yX6_type cX6_type 2 (some .int) :: ([.fieldLink RX6 10 "RoomBorn" "text" "LRoomBorn$Text;", .instanceMethod yX4_add, .initialized RX4, .selects RX4 yX4_add yX4_add, .code yX4_add cX4_add 2 none, .fieldLink RX4 9 "RoomBorn$Text" "letters" "[I", .fieldLink RX4 15 "RoomBorn$Text" "length" "I"] ++ wsX60 ++ wsX40)
def wsX6_clear : List Cond := .code yX6_clear cX6_clear 2 (some .int) :: ([.fieldLink RX6 10 "RoomBorn" "text" "LRoomBorn$Text;"] ++ wsX60 ++ wsX40)
def wsX6_beginAnew : List Cond := .code yX6_beginAnew cX6_beginAnew 2 none :: ([.fieldLink RX6 19 "RoomBorn" "today" "LRoomBorn$Moment;", .fieldLink RX6 55 "RoomBorn" "told" "LRoomBorn$Told;", .fieldLink RX6 26 "RoomBorn" "past" "LRoomBorn$Past;", .fieldLink RX6 48 "RoomBorn" "seen" "LRoomBorn$Seen;", .fieldLink RX6 34 "RoomBorn" "kept" "[Z", .instanceMethod yX1_begin, .initialized RX1, .selects RX1 yX1_begin yX1_begin, .code yX1_begin cX1_begin 3 none, .fieldLink RX1 21 "RoomBorn$Moment" "yearNumber" "I", .fieldLink RX1 25 "RoomBorn$Moment" "born" "I", .fieldLink RX1 28 "RoomBorn$Moment" "living" "I", .fieldLink RX1 9 "RoomBorn$Moment" "old" "[I", .fieldLink RX1 15 "RoomBorn$Moment" "joined" "[I", .static yX6_bit, .initialized RX6, .code yX6_bit cX6_bit 1 (some .int)] ++ wsX60 ++ wsX20 ++ wsX30 ++ wsX10 ++ wsX50)
def wsX6_town_r1 : List Cond := [Cond.fieldLink RX6 10 "RoomBorn" "text" "LRoomBorn$Text;", Cond.fieldLink RX6 59 "RoomBorn" "draft" "LRoomBorn$Told;", Cond.fieldLink RX6 55 "RoomBorn" "told" "LRoomBorn$Told;", Cond.instanceMethod yX4_reads, Cond.initialized RX4, Cond.selects RX4 yX4_reads yX4_reads, Cond.code yX4_reads cX4_reads 3 (some .boolean), Cond.fieldLink RX4 19 "RoomBorn$Text" "place" "I", Cond.fieldLink RX4 22 "RoomBorn$Text" "mothersTold" "Z", Cond.fieldLink RX4 26 "RoomBorn$Text" "lifeTold" "Z", Cond.fieldLink RX4 15 "RoomBorn$Text" "length" "I", Cond.fieldLink RX4 37 "RoomBorn$Text" "token" "I", Cond.instanceMethod yX5_tellNothing, Cond.initialized RX5, Cond.selects RX5 yX5_tellNothing yX5_tellNothing, Cond.code yX5_tellNothing cX5_tellNothing 1 none, Cond.fieldLink RX5 24 "RoomBorn$Told" "items" "I", Cond.fieldLink RX5 28 "RoomBorn$Told" "rooms" "I", Cond.fieldLink RX5 31 "RoomBorn$Told" "mothers" "I", Cond.fieldLink RX5 34 "RoomBorn$Told" "works" "I", Cond.fieldLink RX5 37 "RoomBorn$Told" "life" "I", Cond.methodLink RX4 34 yX4_readToken, Cond.instanceMethod yX4_readToken, Cond.selects RX4 yX4_readToken yX4_readToken]
def wsX6_town_r2 : List Cond := [Cond.code yX4_readToken cX4_readToken 1 none, Cond.fieldLink RX4 9 "RoomBorn$Text" "letters" "[I", Cond.fieldLink RX4 91 "RoomBorn$Text" "start" "I", Cond.methodLink RX4 94 yX4_isDigit, Cond.static yX4_isDigit, Cond.code yX4_isDigit cX4_isDigit 1 (some .boolean), Cond.methodLink RX4 98 yX4_readDigits, Cond.instanceMethod yX4_readDigits, Cond.selects RX4 yX4_readDigits yX4_readDigits, Cond.code yX4_readDigits cX4_readDigits 2 none, Cond.fieldLink RX4 73 "RoomBorn$Text" "value" "I", Cond.methodLink RX4 101 Lib.Math.min.name, Cond.static Lib.Math.min.name, Cond.initialized "java/lang/Math", Cond.code Lib.Math.min.name Lib.Math.min.code 2 (some .int), Cond.methodLink RX4 40 yX4_readsItem, Cond.instanceMethod yX4_readsItem, Cond.selects RX4 yX4_readsItem yX4_readsItem, Cond.code yX4_readsItem cX4_readsItem 2 (some .boolean), Cond.methodLink RX4 51 yX4_readsRoom, Cond.instanceMethod yX4_readsRoom, Cond.selects RX4 yX4_readsRoom yX4_readsRoom, Cond.code yX4_readsRoom cX4_readsRoom 2 (some .boolean), Cond.methodLink RX4 66 yX4_readsNumber]
def wsX6_town_r3 : List Cond := [Cond.instanceMethod yX4_readsNumber, Cond.selects RX4 yX4_readsNumber yX4_readsNumber, Cond.code yX4_readsNumber cX4_readsNumber 3 (some .boolean), Cond.methodLink RX4 54 yX4_readsWork, Cond.instanceMethod yX4_readsWork, Cond.selects RX4 yX4_readsWork yX4_readsWork, Cond.code yX4_readsWork cX4_readsWork 3 (some .boolean), Cond.methodLink RX4 57 yX4_readsMothers, Cond.instanceMethod yX4_readsMothers, Cond.selects RX4 yX4_readsMothers yX4_readsMothers, Cond.code yX4_readsMothers cX4_readsMothers 2 (some .boolean), Cond.methodLink RX4 60 yX4_readsLife, Cond.instanceMethod yX4_readsLife, Cond.selects RX4 yX4_readsLife yX4_readsLife, Cond.code yX4_readsLife cX4_readsLife 2 (some .boolean), Cond.methodLink RX4 44 yX4_readsItemEnd, Cond.instanceMethod yX4_readsItemEnd, Cond.selects RX4 yX4_readsItemEnd yX4_readsItemEnd, Cond.code yX4_readsItemEnd cX4_readsItemEnd 1 (some .boolean), Cond.methodLink RX6 85 yX6_beginAnew, Cond.instanceMethod yX6_beginAnew, Cond.selects RX6 yX6_beginAnew yX6_beginAnew, Cond.initialized RX6, Cond.code yX6_beginAnew cX6_beginAnew 2 none]
def wsX6_town_r4 : List Cond := [Cond.fieldLink RX6 19 "RoomBorn" "today" "LRoomBorn$Moment;", Cond.fieldLink RX6 26 "RoomBorn" "past" "LRoomBorn$Past;", Cond.fieldLink RX6 48 "RoomBorn" "seen" "LRoomBorn$Seen;", Cond.fieldLink RX6 34 "RoomBorn" "kept" "[Z", Cond.instanceMethod yX1_begin, Cond.initialized RX1, Cond.selects RX1 yX1_begin yX1_begin, Cond.code yX1_begin cX1_begin 3 none, Cond.fieldLink RX1 21 "RoomBorn$Moment" "yearNumber" "I", Cond.fieldLink RX1 25 "RoomBorn$Moment" "born" "I", Cond.fieldLink RX1 28 "RoomBorn$Moment" "living" "I", Cond.fieldLink RX1 9 "RoomBorn$Moment" "old" "[I", Cond.fieldLink RX1 15 "RoomBorn$Moment" "joined" "[I", Cond.static yX6_bit, Cond.code yX6_bit cX6_bit 1 (some .int)]
def wsX6_town : List Cond := .code yX6_town cX6_town 2 (some .int) :: ((wsX6_town_r1 ++ (wsX6_town_r2 ++ (wsX6_town_r3 ++ wsX6_town_r4))) ++ wsX60 ++ wsX40 ++ wsX50 ++ wsX20 ++ wsX30 ++ wsX10)
def wsX6_isRoom : List Cond := .code yX6_isRoom cX6_isRoom 2 (some .boolean) :: ([.fieldLink RX6 55 "RoomBorn" "told" "LRoomBorn$Told;"] ++ wsX60 ++ wsX50)
def wsX6_room : List Cond := .code yX6_room cX6_room 3 (some .int) :: ([.fieldLink RX6 19 "RoomBorn" "today" "LRoomBorn$Moment;", .methodLink RX6 91 yX6_isRoom, .instanceMethod yX6_isRoom, .selects RX6 yX6_isRoom yX6_isRoom, .initialized RX6, .code yX6_isRoom cX6_isRoom 2 (some .boolean), .fieldLink RX6 55 "RoomBorn" "told" "LRoomBorn$Told;", .instanceMethod yX1_ageOfRoom, .initialized RX1, .selects RX1 yX1_ageOfRoom yX1_ageOfRoom, .code yX1_ageOfRoom cX1_ageOfRoom 2 (some .int), .fieldLink RX1 15 "RoomBorn$Moment" "joined" "[I", .methodLink RX1 44 yX1_ageTogether, .instanceMethod yX1_ageTogether, .selects RX1 yX1_ageTogether yX1_ageTogether, .code yX1_ageTogether cX1_ageTogether 5 (some .int), .fieldLink RX1 9 "RoomBorn$Moment" "old" "[I", .static yX6_has, .code yX6_has cX6_has 2 (some .boolean), .methodLink RX6 170 yX6_bit, .static yX6_bit, .code yX6_bit cX6_bit 1 (some .int)] ++ wsX60 ++ wsX10 ++ wsX50)
def wsX6_isMother : List Cond := .code yX6_isMother cX6_isMother 2 (some .boolean) :: ([.fieldLink RX6 55 "RoomBorn" "told" "LRoomBorn$Told;"] ++ wsX60 ++ wsX50)
def wsX6_worksOfChild_r1 : List Cond := [Cond.fieldLink RX6 19 "RoomBorn" "today" "LRoomBorn$Moment;", Cond.fieldLink RX6 55 "RoomBorn" "told" "LRoomBorn$Told;", Cond.methodLink RX6 112 yX6_has, Cond.static yX6_has, Cond.initialized RX6, Cond.code yX6_has cX6_has 2 (some .boolean), Cond.methodLink RX6 170 yX6_bit, Cond.static yX6_bit, Cond.code yX6_bit cX6_bit 1 (some .int), Cond.instanceMethod yX5_worksAt, Cond.initialized RX5, Cond.selects RX5 yX5_worksAt yX5_worksAt, Cond.code yX5_worksAt cX5_worksAt 4 (some .int), Cond.fieldLink RX5 34 "RoomBorn$Told" "works" "I", Cond.methodLink RX5 44 yX5_does, Cond.instanceMethod yX5_does, Cond.selects RX5 yX5_does yX5_does, Cond.code yX5_does cX5_does 3 (some .boolean), Cond.fieldLink RX5 37 "RoomBorn$Told" "life" "I", Cond.methodLink RX5 40 yX5_spans, Cond.instanceMethod yX5_spans, Cond.selects RX5 yX5_spans yX5_spans, Cond.code yX5_spans cX5_spans 3 (some .boolean), Cond.fieldLink RX5 15 "RoomBorn$Told" "low" "[I"]
def wsX6_worksOfChild_r2 : List Cond := [Cond.fieldLink RX5 18 "RoomBorn$Told" "high" "[I"]
def wsX6_worksOfChild : List Cond := .code yX6_worksOfChild cX6_worksOfChild 2 (some .int) :: ((wsX6_worksOfChild_r1 ++ wsX6_worksOfChild_r2) ++ wsX60 ++ wsX10 ++ wsX50)
def wsX6_child_r1 : List Cond := [Cond.fieldLink RX6 19 "RoomBorn" "today" "LRoomBorn$Moment;", Cond.methodLink RX6 106 yX6_isMother, Cond.instanceMethod yX6_isMother, Cond.selects RX6 yX6_isMother yX6_isMother, Cond.initialized RX6, Cond.code yX6_isMother cX6_isMother 2 (some .boolean), Cond.fieldLink RX6 55 "RoomBorn" "told" "LRoomBorn$Told;", Cond.methodLink RX6 112 yX6_has, Cond.static yX6_has, Cond.code yX6_has cX6_has 2 (some .boolean), Cond.methodLink RX6 170 yX6_bit, Cond.static yX6_bit, Cond.code yX6_bit cX6_bit 1 (some .int), Cond.methodLink RX6 122 yX6_worksOfChild, Cond.instanceMethod yX6_worksOfChild, Cond.selects RX6 yX6_worksOfChild yX6_worksOfChild, Cond.code yX6_worksOfChild cX6_worksOfChild 2 (some .int), Cond.instanceMethod yX5_worksAt, Cond.initialized RX5, Cond.selects RX5 yX5_worksAt yX5_worksAt, Cond.code yX5_worksAt cX5_worksAt 4 (some .int), Cond.fieldLink RX5 34 "RoomBorn$Told" "works" "I", Cond.methodLink RX5 44 yX5_does, Cond.instanceMethod yX5_does]
def wsX6_child_r2 : List Cond := [Cond.selects RX5 yX5_does yX5_does, Cond.code yX5_does cX5_does 3 (some .boolean), Cond.fieldLink RX5 37 "RoomBorn$Told" "life" "I", Cond.methodLink RX5 40 yX5_spans, Cond.instanceMethod yX5_spans, Cond.selects RX5 yX5_spans yX5_spans, Cond.code yX5_spans cX5_spans 3 (some .boolean), Cond.fieldLink RX5 15 "RoomBorn$Told" "low" "[I", Cond.fieldLink RX5 18 "RoomBorn$Told" "high" "[I"]
def wsX6_child : List Cond := .code yX6_child cX6_child 3 (some .int) :: ((wsX6_child_r1 ++ wsX6_child_r2) ++ wsX60 ++ wsX10 ++ wsX50)
def wsX6_isWork : List Cond := .code yX6_isWork cX6_isWork 2 (some .boolean) :: ([.fieldLink RX6 55 "RoomBorn" "told" "LRoomBorn$Told;"] ++ wsX60 ++ wsX50)
def wsX6_whoCanDo : List Cond := .code yX6_whoCanDo cX6_whoCanDo 5 (some .int) :: ([.fieldLink RX6 55 "RoomBorn" "told" "LRoomBorn$Told;", .fieldLink RX6 19 "RoomBorn" "today" "LRoomBorn$Moment;", .methodLink RX6 112 yX6_has, .static yX6_has, .initialized RX6, .code yX6_has cX6_has 2 (some .boolean), .methodLink RX6 170 yX6_bit, .static yX6_bit, .code yX6_bit cX6_bit 1 (some .int), .instanceMethod yX5_does, .initialized RX5, .selects RX5 yX5_does yX5_does, .code yX5_does cX5_does 3 (some .boolean), .fieldLink RX5 37 "RoomBorn$Told" "life" "I", .methodLink RX5 40 yX5_spans, .instanceMethod yX5_spans, .selects RX5 yX5_spans yX5_spans, .code yX5_spans cX5_spans 3 (some .boolean), .fieldLink RX5 15 "RoomBorn$Told" "low" "[I", .fieldLink RX5 18 "RoomBorn$Told" "high" "[I"] ++ wsX60 ++ wsX50 ++ wsX10)
def wsX6_yearsUntilNobody : List Cond := .code yX6_yearsUntilNobody cX6_yearsUntilNobody 3 (some .int) :: ([.methodLink RX6 134 yX6_whoCanDo, .instanceMethod yX6_whoCanDo, .selects RX6 yX6_whoCanDo yX6_whoCanDo, .initialized RX6, .code yX6_whoCanDo cX6_whoCanDo 5 (some .int), .fieldLink RX6 55 "RoomBorn" "told" "LRoomBorn$Told;", .fieldLink RX6 19 "RoomBorn" "today" "LRoomBorn$Moment;", .methodLink RX6 112 yX6_has, .static yX6_has, .code yX6_has cX6_has 2 (some .boolean), .methodLink RX6 170 yX6_bit, .static yX6_bit, .code yX6_bit cX6_bit 1 (some .int), .instanceMethod yX5_does, .initialized RX5, .selects RX5 yX5_does yX5_does, .code yX5_does cX5_does 3 (some .boolean), .fieldLink RX5 37 "RoomBorn$Told" "life" "I", .methodLink RX5 40 yX5_spans, .instanceMethod yX5_spans, .selects RX5 yX5_spans yX5_spans, .code yX5_spans cX5_spans 3 (some .boolean), .fieldLink RX5 15 "RoomBorn$Told" "low" "[I", .fieldLink RX5 18 "RoomBorn$Told" "high" "[I"] ++ wsX60 ++ wsX50 ++ wsX10)
def wsX6_work_r1 : List Cond := [Cond.fieldLink RX6 55 "RoomBorn" "told" "LRoomBorn$Told;", Cond.methodLink RX6 125 yX6_isWork, Cond.instanceMethod yX6_isWork, Cond.selects RX6 yX6_isWork yX6_isWork, Cond.initialized RX6, Cond.code yX6_isWork cX6_isWork 2 (some .boolean), Cond.methodLink RX6 134 yX6_whoCanDo, Cond.instanceMethod yX6_whoCanDo, Cond.selects RX6 yX6_whoCanDo yX6_whoCanDo, Cond.code yX6_whoCanDo cX6_whoCanDo 5 (some .int), Cond.fieldLink RX6 19 "RoomBorn" "today" "LRoomBorn$Moment;", Cond.methodLink RX6 112 yX6_has, Cond.static yX6_has, Cond.code yX6_has cX6_has 2 (some .boolean), Cond.methodLink RX6 170 yX6_bit, Cond.static yX6_bit, Cond.code yX6_bit cX6_bit 1 (some .int), Cond.instanceMethod yX5_does, Cond.initialized RX5, Cond.selects RX5 yX5_does yX5_does, Cond.code yX5_does cX5_does 3 (some .boolean), Cond.fieldLink RX5 37 "RoomBorn$Told" "life" "I", Cond.methodLink RX5 40 yX5_spans, Cond.instanceMethod yX5_spans]
def wsX6_work_r2 : List Cond := [Cond.selects RX5 yX5_spans yX5_spans, Cond.code yX5_spans cX5_spans 3 (some .boolean), Cond.fieldLink RX5 15 "RoomBorn$Told" "low" "[I", Cond.fieldLink RX5 18 "RoomBorn$Told" "high" "[I", Cond.methodLink RX6 138 yX6_yearsUntilNobody, Cond.instanceMethod yX6_yearsUntilNobody, Cond.selects RX6 yX6_yearsUntilNobody yX6_yearsUntilNobody, Cond.code yX6_yearsUntilNobody cX6_yearsUntilNobody 3 (some .int)]
def wsX6_work : List Cond := .code yX6_work cX6_work 3 (some .int) :: ((wsX6_work_r1 ++ wsX6_work_r2) ++ wsX60 ++ wsX50 ++ wsX10)
def wsX6_tellFilling_r1 : List Cond := [Cond.fieldLink RX6 41 "RoomBorn" "filling" "LRoomBorn$Filling;", Cond.fieldLink RX6 55 "RoomBorn" "told" "LRoomBorn$Told;", Cond.methodLink RX6 122 yX6_worksOfChild, Cond.instanceMethod yX6_worksOfChild, Cond.selects RX6 yX6_worksOfChild yX6_worksOfChild, Cond.initialized RX6, Cond.code yX6_worksOfChild cX6_worksOfChild 2 (some .int), Cond.fieldLink RX6 19 "RoomBorn" "today" "LRoomBorn$Moment;", Cond.methodLink RX6 112 yX6_has, Cond.static yX6_has, Cond.code yX6_has cX6_has 2 (some .boolean), Cond.methodLink RX6 170 yX6_bit, Cond.static yX6_bit, Cond.code yX6_bit cX6_bit 1 (some .int), Cond.instanceMethod yX5_worksAt, Cond.initialized RX5, Cond.selects RX5 yX5_worksAt yX5_worksAt, Cond.code yX5_worksAt cX5_worksAt 4 (some .int), Cond.fieldLink RX5 34 "RoomBorn$Told" "works" "I", Cond.methodLink RX5 44 yX5_does, Cond.instanceMethod yX5_does, Cond.selects RX5 yX5_does yX5_does, Cond.code yX5_does cX5_does 3 (some .boolean), Cond.fieldLink RX5 37 "RoomBorn$Told" "life" "I"]
def wsX6_tellFilling_r2 : List Cond := [Cond.methodLink RX5 40 yX5_spans, Cond.instanceMethod yX5_spans, Cond.selects RX5 yX5_spans yX5_spans, Cond.code yX5_spans cX5_spans 3 (some .boolean), Cond.fieldLink RX5 15 "RoomBorn$Told" "low" "[I", Cond.fieldLink RX5 18 "RoomBorn$Told" "high" "[I"]
def wsX6_tellFilling : List Cond := .code yX6_tellFilling cX6_tellFilling 2 none :: ((wsX6_tellFilling_r1 ++ wsX6_tellFilling_r2) ++ wsX60 ++ wsX50 ++ wsX00 ++ wsX10)
def wsX6_mostFilled_r1 : List Cond := [Cond.fieldLink RX6 41 "RoomBorn" "filling" "LRoomBorn$Filling;", Cond.methodLink RX6 182 yX6_tellFilling, Cond.instanceMethod yX6_tellFilling, Cond.selects RX6 yX6_tellFilling yX6_tellFilling, Cond.initialized RX6, Cond.code yX6_tellFilling cX6_tellFilling 2 none, Cond.fieldLink RX6 55 "RoomBorn" "told" "LRoomBorn$Told;", Cond.methodLink RX6 122 yX6_worksOfChild, Cond.instanceMethod yX6_worksOfChild, Cond.selects RX6 yX6_worksOfChild yX6_worksOfChild, Cond.code yX6_worksOfChild cX6_worksOfChild 2 (some .int), Cond.fieldLink RX6 19 "RoomBorn" "today" "LRoomBorn$Moment;", Cond.methodLink RX6 112 yX6_has, Cond.static yX6_has, Cond.code yX6_has cX6_has 2 (some .boolean), Cond.methodLink RX6 170 yX6_bit, Cond.static yX6_bit, Cond.code yX6_bit cX6_bit 1 (some .int), Cond.instanceMethod yX5_worksAt, Cond.initialized RX5, Cond.selects RX5 yX5_worksAt yX5_worksAt, Cond.code yX5_worksAt cX5_worksAt 4 (some .int), Cond.fieldLink RX5 34 "RoomBorn$Told" "works" "I", Cond.methodLink RX5 44 yX5_does]
def wsX6_mostFilled_r2 : List Cond := [Cond.instanceMethod yX5_does, Cond.selects RX5 yX5_does yX5_does, Cond.code yX5_does cX5_does 3 (some .boolean), Cond.fieldLink RX5 37 "RoomBorn$Told" "life" "I", Cond.methodLink RX5 40 yX5_spans, Cond.instanceMethod yX5_spans, Cond.selects RX5 yX5_spans yX5_spans, Cond.code yX5_spans cX5_spans 3 (some .boolean), Cond.fieldLink RX5 15 "RoomBorn$Told" "low" "[I", Cond.fieldLink RX5 18 "RoomBorn$Told" "high" "[I", Cond.instanceMethod yX0_solve, Cond.initialized RX0, Cond.selects RX0 yX0_solve yX0_solve, Cond.code yX0_solve cX0_solve 3 (some .int), Cond.fieldLink RX0 24 "RoomBorn$Filling" "works" "I", Cond.fieldLink RX0 17 "RoomBorn$Filling" "most" "[[I", Cond.fieldLink RX0 20 "RoomBorn$Filling" "children" "I", Cond.methodLink RX0 31 yX0_mostFrom, Cond.instanceMethod yX0_mostFrom, Cond.selects RX0 yX0_mostFrom yX0_mostFrom, Cond.code yX0_mostFrom cX0_mostFrom 5 (some .int), Cond.methodLink RX0 39 Lib.Math.max.name, Cond.static Lib.Math.max.name, Cond.initialized "java/lang/Math"]
def wsX6_mostFilled_r3 : List Cond := [Cond.code Lib.Math.max.name Lib.Math.max.code 2 (some .int), Cond.methodLink RX0 35 yX0_isFree, Cond.instanceMethod yX0_isFree, Cond.selects RX0 yX0_isFree yX0_isFree, Cond.code yX0_isFree cX0_isFree 4 (some .boolean), Cond.fieldLink RX0 9 "RoomBorn$Filling" "can" "[I"]
def wsX6_mostFilled : List Cond := .code yX6_mostFilled cX6_mostFilled 1 (some .int) :: ((wsX6_mostFilled_r1 ++ (wsX6_mostFilled_r2 ++ wsX6_mostFilled_r3)) ++ wsX60 ++ wsX50 ++ wsX00 ++ wsX10)
def wsX6_now_r1 : List Cond := [Cond.fieldLink RX6 19 "RoomBorn" "today" "LRoomBorn$Moment;", Cond.fieldLink RX6 26 "RoomBorn" "past" "LRoomBorn$Past;", Cond.methodLink RX6 144 yX6_mostFilled, Cond.instanceMethod yX6_mostFilled, Cond.selects RX6 yX6_mostFilled yX6_mostFilled, Cond.initialized RX6, Cond.code yX6_mostFilled cX6_mostFilled 1 (some .int), Cond.fieldLink RX6 41 "RoomBorn" "filling" "LRoomBorn$Filling;", Cond.methodLink RX6 182 yX6_tellFilling, Cond.instanceMethod yX6_tellFilling, Cond.selects RX6 yX6_tellFilling yX6_tellFilling, Cond.code yX6_tellFilling cX6_tellFilling 2 none, Cond.fieldLink RX6 55 "RoomBorn" "told" "LRoomBorn$Told;", Cond.methodLink RX6 122 yX6_worksOfChild, Cond.instanceMethod yX6_worksOfChild, Cond.selects RX6 yX6_worksOfChild yX6_worksOfChild, Cond.code yX6_worksOfChild cX6_worksOfChild 2 (some .int), Cond.methodLink RX6 112 yX6_has, Cond.static yX6_has, Cond.code yX6_has cX6_has 2 (some .boolean), Cond.methodLink RX6 170 yX6_bit, Cond.static yX6_bit, Cond.code yX6_bit cX6_bit 1 (some .int), Cond.instanceMethod yX5_worksAt]
def wsX6_now_r2 : List Cond := [Cond.initialized RX5, Cond.selects RX5 yX5_worksAt yX5_worksAt, Cond.code yX5_worksAt cX5_worksAt 4 (some .int), Cond.fieldLink RX5 34 "RoomBorn$Told" "works" "I", Cond.methodLink RX5 44 yX5_does, Cond.instanceMethod yX5_does, Cond.selects RX5 yX5_does yX5_does, Cond.code yX5_does cX5_does 3 (some .boolean), Cond.fieldLink RX5 37 "RoomBorn$Told" "life" "I", Cond.methodLink RX5 40 yX5_spans, Cond.instanceMethod yX5_spans, Cond.selects RX5 yX5_spans yX5_spans, Cond.code yX5_spans cX5_spans 3 (some .boolean), Cond.fieldLink RX5 15 "RoomBorn$Told" "low" "[I", Cond.fieldLink RX5 18 "RoomBorn$Told" "high" "[I", Cond.instanceMethod yX0_solve, Cond.initialized RX0, Cond.selects RX0 yX0_solve yX0_solve, Cond.code yX0_solve cX0_solve 3 (some .int), Cond.fieldLink RX0 24 "RoomBorn$Filling" "works" "I", Cond.fieldLink RX0 17 "RoomBorn$Filling" "most" "[[I", Cond.fieldLink RX0 20 "RoomBorn$Filling" "children" "I", Cond.methodLink RX0 31 yX0_mostFrom, Cond.instanceMethod yX0_mostFrom]
def wsX6_now_r3 : List Cond := [Cond.selects RX0 yX0_mostFrom yX0_mostFrom, Cond.code yX0_mostFrom cX0_mostFrom 5 (some .int), Cond.methodLink RX0 39 Lib.Math.max.name, Cond.static Lib.Math.max.name, Cond.initialized "java/lang/Math", Cond.code Lib.Math.max.name Lib.Math.max.code 2 (some .int), Cond.methodLink RX0 35 yX0_isFree, Cond.instanceMethod yX0_isFree, Cond.selects RX0 yX0_isFree yX0_isFree, Cond.code yX0_isFree cX0_isFree 4 (some .boolean), Cond.fieldLink RX0 9 "RoomBorn$Filling" "can" "[I"]
def wsX6_now : List Cond := .code yX6_now cX6_now 2 (some .int) :: ((wsX6_now_r1 ++ (wsX6_now_r2 ++ wsX6_now_r3)) ++ wsX60 ++ wsX10 ++ wsX20 ++ wsX50 ++ wsX00)
def wsX6_bears_r1 : List Cond := [Cond.fieldLink RX6 19 "RoomBorn" "today" "LRoomBorn$Moment;", Cond.fieldLink RX6 26 "RoomBorn" "past" "LRoomBorn$Past;", Cond.fieldLink RX6 55 "RoomBorn" "told" "LRoomBorn$Told;", Cond.methodLink RX6 106 yX6_isMother, Cond.instanceMethod yX6_isMother, Cond.selects RX6 yX6_isMother yX6_isMother, Cond.initialized RX6, Cond.code yX6_isMother cX6_isMother 2 (some .boolean), Cond.methodLink RX6 91 yX6_isRoom, Cond.instanceMethod yX6_isRoom, Cond.selects RX6 yX6_isRoom yX6_isRoom, Cond.code yX6_isRoom cX6_isRoom 2 (some .boolean), Cond.methodLink RX6 112 yX6_has, Cond.static yX6_has, Cond.code yX6_has cX6_has 2 (some .boolean), Cond.methodLink RX6 170 yX6_bit, Cond.static yX6_bit, Cond.code yX6_bit cX6_bit 1 (some .int), Cond.instanceMethod yX2_remember, Cond.initialized RX2, Cond.selects RX2 yX2_remember yX2_remember, Cond.code yX2_remember cX2_remember 2 none, Cond.fieldLink RX2 11 "RoomBorn$Past" "moments" "[LRoomBorn$Moment;", Cond.fieldLink RX2 17 "RoomBorn$Past" "free" "I"]
def wsX6_bears_r2 : List Cond := [Cond.fieldLink RX2 21 "RoomBorn$Past" "known" "I", Cond.methodLink RX2 29 Lib.Math.min.name, Cond.static Lib.Math.min.name, Cond.initialized "java/lang/Math", Cond.code Lib.Math.min.name Lib.Math.min.code 2 (some .int), Cond.instanceMethod yX1_become, Cond.initialized RX1, Cond.selects RX1 yX1_become yX1_become, Cond.code yX1_become cX1_become 2 none, Cond.fieldLink RX1 21 "RoomBorn$Moment" "yearNumber" "I", Cond.fieldLink RX1 25 "RoomBorn$Moment" "born" "I", Cond.fieldLink RX1 28 "RoomBorn$Moment" "living" "I", Cond.fieldLink RX1 9 "RoomBorn$Moment" "old" "[I", Cond.methodLink RX1 38 arraycopyName, Cond.native arraycopyName, Cond.static arraycopyName, Cond.initialized "java/lang/System", Cond.fieldLink RX1 15 "RoomBorn$Moment" "joined" "[I", Cond.fieldLink RX1 18 "RoomBorn$Moment" "age" "[I", Cond.instanceMethod yX1_bear, Cond.selects RX1 yX1_bear yX1_bear, Cond.code yX1_bear cX1_bear 4 (some .int), Cond.methodLink RX1 51 yX1_ageOfRoom, Cond.instanceMethod yX1_ageOfRoom]
def wsX6_bears_r3 : List Cond := [Cond.selects RX1 yX1_ageOfRoom yX1_ageOfRoom, Cond.code yX1_ageOfRoom cX1_ageOfRoom 2 (some .int), Cond.methodLink RX1 44 yX1_ageTogether, Cond.instanceMethod yX1_ageTogether, Cond.selects RX1 yX1_ageTogether yX1_ageTogether, Cond.code yX1_ageTogether cX1_ageTogether 5 (some .int)]
def wsX6_bears : List Cond := .code yX6_bears cX6_bears 3 (some .int) :: ((wsX6_bears_r1 ++ (wsX6_bears_r2 ++ wsX6_bears_r3)) ++ wsX60 ++ wsX10 ++ wsX50 ++ wsX20)
def wsX6_year_r1 : List Cond := [Cond.fieldLink RX6 19 "RoomBorn" "today" "LRoomBorn$Moment;", Cond.fieldLink RX6 26 "RoomBorn" "past" "LRoomBorn$Past;", Cond.fieldLink RX6 55 "RoomBorn" "told" "LRoomBorn$Told;", Cond.instanceMethod yX2_remember, Cond.initialized RX2, Cond.selects RX2 yX2_remember yX2_remember, Cond.code yX2_remember cX2_remember 2 none, Cond.fieldLink RX2 11 "RoomBorn$Past" "moments" "[LRoomBorn$Moment;", Cond.fieldLink RX2 17 "RoomBorn$Past" "free" "I", Cond.fieldLink RX2 21 "RoomBorn$Past" "known" "I", Cond.methodLink RX2 29 Lib.Math.min.name, Cond.static Lib.Math.min.name, Cond.initialized "java/lang/Math", Cond.code Lib.Math.min.name Lib.Math.min.code 2 (some .int), Cond.instanceMethod yX1_become, Cond.initialized RX1, Cond.selects RX1 yX1_become yX1_become, Cond.code yX1_become cX1_become 2 none, Cond.fieldLink RX1 21 "RoomBorn$Moment" "yearNumber" "I", Cond.fieldLink RX1 25 "RoomBorn$Moment" "born" "I", Cond.fieldLink RX1 28 "RoomBorn$Moment" "living" "I", Cond.fieldLink RX1 9 "RoomBorn$Moment" "old" "[I", Cond.methodLink RX1 38 arraycopyName, Cond.native arraycopyName]
def wsX6_year_r2 : List Cond := [Cond.static arraycopyName, Cond.initialized "java/lang/System", Cond.fieldLink RX1 15 "RoomBorn$Moment" "joined" "[I", Cond.fieldLink RX1 18 "RoomBorn$Moment" "age" "[I", Cond.instanceMethod yX1_passYear, Cond.selects RX1 yX1_passYear yX1_passYear, Cond.code yX1_passYear cX1_passYear 4 (some .int), Cond.static yX6_has, Cond.initialized RX6, Cond.code yX6_has cX6_has 2 (some .boolean), Cond.methodLink RX6 170 yX6_bit, Cond.static yX6_bit, Cond.code yX6_bit cX6_bit 1 (some .int)]
def wsX6_year : List Cond := .code yX6_year cX6_year 1 (some .int) :: ((wsX6_year_r1 ++ wsX6_year_r2) ++ wsX60 ++ wsX10 ++ wsX20 ++ wsX50)
def wsX6_joins_r1 : List Cond := [Cond.fieldLink RX6 19 "RoomBorn" "today" "LRoomBorn$Moment;", Cond.fieldLink RX6 26 "RoomBorn" "past" "LRoomBorn$Past;", Cond.methodLink RX6 91 yX6_isRoom, Cond.instanceMethod yX6_isRoom, Cond.selects RX6 yX6_isRoom yX6_isRoom, Cond.initialized RX6, Cond.code yX6_isRoom cX6_isRoom 2 (some .boolean), Cond.fieldLink RX6 55 "RoomBorn" "told" "LRoomBorn$Told;", Cond.methodLink RX6 112 yX6_has, Cond.static yX6_has, Cond.code yX6_has cX6_has 2 (some .boolean), Cond.methodLink RX6 170 yX6_bit, Cond.static yX6_bit, Cond.code yX6_bit cX6_bit 1 (some .int), Cond.instanceMethod yX2_remember, Cond.initialized RX2, Cond.selects RX2 yX2_remember yX2_remember, Cond.code yX2_remember cX2_remember 2 none, Cond.fieldLink RX2 11 "RoomBorn$Past" "moments" "[LRoomBorn$Moment;", Cond.fieldLink RX2 17 "RoomBorn$Past" "free" "I", Cond.fieldLink RX2 21 "RoomBorn$Past" "known" "I", Cond.methodLink RX2 29 Lib.Math.min.name, Cond.static Lib.Math.min.name, Cond.initialized "java/lang/Math"]
def wsX6_joins_r2 : List Cond := [Cond.code Lib.Math.min.name Lib.Math.min.code 2 (some .int), Cond.instanceMethod yX1_become, Cond.initialized RX1, Cond.selects RX1 yX1_become yX1_become, Cond.code yX1_become cX1_become 2 none, Cond.fieldLink RX1 21 "RoomBorn$Moment" "yearNumber" "I", Cond.fieldLink RX1 25 "RoomBorn$Moment" "born" "I", Cond.fieldLink RX1 28 "RoomBorn$Moment" "living" "I", Cond.fieldLink RX1 9 "RoomBorn$Moment" "old" "[I", Cond.methodLink RX1 38 arraycopyName, Cond.native arraycopyName, Cond.static arraycopyName, Cond.initialized "java/lang/System", Cond.fieldLink RX1 15 "RoomBorn$Moment" "joined" "[I", Cond.fieldLink RX1 18 "RoomBorn$Moment" "age" "[I", Cond.instanceMethod yX1_knockThrough, Cond.selects RX1 yX1_knockThrough yX1_knockThrough, Cond.code yX1_knockThrough cX1_knockThrough 5 none, Cond.instanceMethod yX1_ageOfRoom, Cond.selects RX1 yX1_ageOfRoom yX1_ageOfRoom, Cond.code yX1_ageOfRoom cX1_ageOfRoom 2 (some .int), Cond.methodLink RX1 44 yX1_ageTogether, Cond.instanceMethod yX1_ageTogether, Cond.selects RX1 yX1_ageTogether yX1_ageTogether]
def wsX6_joins_r3 : List Cond := [Cond.code yX1_ageTogether cX1_ageTogether 5 (some .int)]
def wsX6_joins : List Cond := .code yX6_joins cX6_joins 3 (some .int) :: ((wsX6_joins_r1 ++ (wsX6_joins_r2 ++ wsX6_joins_r3)) ++ wsX60 ++ wsX10 ++ wsX50 ++ wsX20)
def wsX6_builds_r1 : List Cond := [Cond.fieldLink RX6 19 "RoomBorn" "today" "LRoomBorn$Moment;", Cond.fieldLink RX6 26 "RoomBorn" "past" "LRoomBorn$Past;", Cond.methodLink RX6 91 yX6_isRoom, Cond.instanceMethod yX6_isRoom, Cond.selects RX6 yX6_isRoom yX6_isRoom, Cond.initialized RX6, Cond.code yX6_isRoom cX6_isRoom 2 (some .boolean), Cond.fieldLink RX6 55 "RoomBorn" "told" "LRoomBorn$Told;", Cond.methodLink RX6 170 yX6_bit, Cond.static yX6_bit, Cond.code yX6_bit cX6_bit 1 (some .int), Cond.instanceMethod yX2_remember, Cond.initialized RX2, Cond.selects RX2 yX2_remember yX2_remember, Cond.code yX2_remember cX2_remember 2 none, Cond.fieldLink RX2 11 "RoomBorn$Past" "moments" "[LRoomBorn$Moment;", Cond.fieldLink RX2 17 "RoomBorn$Past" "free" "I", Cond.fieldLink RX2 21 "RoomBorn$Past" "known" "I", Cond.methodLink RX2 29 Lib.Math.min.name, Cond.static Lib.Math.min.name, Cond.initialized "java/lang/Math", Cond.code Lib.Math.min.name Lib.Math.min.code 2 (some .int), Cond.instanceMethod yX1_become, Cond.initialized RX1]
def wsX6_builds_r2 : List Cond := [Cond.selects RX1 yX1_become yX1_become, Cond.code yX1_become cX1_become 2 none, Cond.fieldLink RX1 21 "RoomBorn$Moment" "yearNumber" "I", Cond.fieldLink RX1 25 "RoomBorn$Moment" "born" "I", Cond.fieldLink RX1 28 "RoomBorn$Moment" "living" "I", Cond.fieldLink RX1 9 "RoomBorn$Moment" "old" "[I", Cond.methodLink RX1 38 arraycopyName, Cond.native arraycopyName, Cond.static arraycopyName, Cond.initialized "java/lang/System", Cond.fieldLink RX1 15 "RoomBorn$Moment" "joined" "[I", Cond.fieldLink RX1 18 "RoomBorn$Moment" "age" "[I", Cond.instanceMethod yX1_buildAnew, Cond.selects RX1 yX1_buildAnew yX1_buildAnew, Cond.code yX1_buildAnew cX1_buildAnew 3 none]
def wsX6_builds : List Cond := .code yX6_builds cX6_builds 3 (some .int) :: ((wsX6_builds_r1 ++ wsX6_builds_r2) ++ wsX60 ++ wsX10 ++ wsX50 ++ wsX20)
def wsX6_undo : List Cond := .code yX6_undo cX6_undo 1 (some .int) :: ([.fieldLink RX6 26 "RoomBorn" "past" "LRoomBorn$Past;", .fieldLink RX6 19 "RoomBorn" "today" "LRoomBorn$Moment;", .instanceMethod yX2_restore, .initialized RX2, .selects RX2 yX2_restore yX2_restore, .code yX2_restore cX2_restore 2 none, .fieldLink RX2 17 "RoomBorn$Past" "free" "I", .fieldLink RX2 21 "RoomBorn$Past" "known" "I", .fieldLink RX2 11 "RoomBorn$Past" "moments" "[LRoomBorn$Moment;", .instanceMethod yX1_become, .initialized RX1, .selects RX1 yX1_become yX1_become, .code yX1_become cX1_become 2 none, .fieldLink RX1 21 "RoomBorn$Moment" "yearNumber" "I", .fieldLink RX1 25 "RoomBorn$Moment" "born" "I", .fieldLink RX1 28 "RoomBorn$Moment" "living" "I", .fieldLink RX1 9 "RoomBorn$Moment" "old" "[I", .methodLink RX1 38 arraycopyName, .native arraycopyName, .static arraycopyName, .initialized "java/lang/System", .fieldLink RX1 15 "RoomBorn$Moment" "joined" "[I", .fieldLink RX1 18 "RoomBorn$Moment" "age" "[I"] ++ wsX60 ++ wsX20 ++ wsX10)
def wsX6_fills_r1 : List Cond := [Cond.fieldLink RX6 41 "RoomBorn" "filling" "LRoomBorn$Filling;", Cond.methodLink RX6 106 yX6_isMother, Cond.instanceMethod yX6_isMother, Cond.selects RX6 yX6_isMother yX6_isMother, Cond.initialized RX6, Cond.code yX6_isMother cX6_isMother 2 (some .boolean), Cond.fieldLink RX6 55 "RoomBorn" "told" "LRoomBorn$Told;", Cond.methodLink RX6 144 yX6_mostFilled, Cond.instanceMethod yX6_mostFilled, Cond.selects RX6 yX6_mostFilled yX6_mostFilled, Cond.code yX6_mostFilled cX6_mostFilled 1 (some .int), Cond.methodLink RX6 182 yX6_tellFilling, Cond.instanceMethod yX6_tellFilling, Cond.selects RX6 yX6_tellFilling yX6_tellFilling, Cond.code yX6_tellFilling cX6_tellFilling 2 none, Cond.methodLink RX6 122 yX6_worksOfChild, Cond.instanceMethod yX6_worksOfChild, Cond.selects RX6 yX6_worksOfChild yX6_worksOfChild, Cond.code yX6_worksOfChild cX6_worksOfChild 2 (some .int), Cond.fieldLink RX6 19 "RoomBorn" "today" "LRoomBorn$Moment;", Cond.methodLink RX6 112 yX6_has, Cond.static yX6_has, Cond.code yX6_has cX6_has 2 (some .boolean), Cond.methodLink RX6 170 yX6_bit]
def wsX6_fills_r2 : List Cond := [Cond.static yX6_bit, Cond.code yX6_bit cX6_bit 1 (some .int), Cond.instanceMethod yX5_worksAt, Cond.initialized RX5, Cond.selects RX5 yX5_worksAt yX5_worksAt, Cond.code yX5_worksAt cX5_worksAt 4 (some .int), Cond.fieldLink RX5 34 "RoomBorn$Told" "works" "I", Cond.methodLink RX5 44 yX5_does, Cond.instanceMethod yX5_does, Cond.selects RX5 yX5_does yX5_does, Cond.code yX5_does cX5_does 3 (some .boolean), Cond.fieldLink RX5 37 "RoomBorn$Told" "life" "I", Cond.methodLink RX5 40 yX5_spans, Cond.instanceMethod yX5_spans, Cond.selects RX5 yX5_spans yX5_spans, Cond.code yX5_spans cX5_spans 3 (some .boolean), Cond.fieldLink RX5 15 "RoomBorn$Told" "low" "[I", Cond.fieldLink RX5 18 "RoomBorn$Told" "high" "[I", Cond.instanceMethod yX0_solve, Cond.initialized RX0, Cond.selects RX0 yX0_solve yX0_solve, Cond.code yX0_solve cX0_solve 3 (some .int), Cond.fieldLink RX0 24 "RoomBorn$Filling" "works" "I", Cond.fieldLink RX0 17 "RoomBorn$Filling" "most" "[[I"]
def wsX6_fills_r3 : List Cond := [Cond.fieldLink RX0 20 "RoomBorn$Filling" "children" "I", Cond.methodLink RX0 31 yX0_mostFrom, Cond.instanceMethod yX0_mostFrom, Cond.selects RX0 yX0_mostFrom yX0_mostFrom, Cond.code yX0_mostFrom cX0_mostFrom 5 (some .int), Cond.methodLink RX0 39 Lib.Math.max.name, Cond.static Lib.Math.max.name, Cond.initialized "java/lang/Math", Cond.code Lib.Math.max.name Lib.Math.max.code 2 (some .int), Cond.methodLink RX0 35 yX0_isFree, Cond.instanceMethod yX0_isFree, Cond.selects RX0 yX0_isFree yX0_isFree, Cond.code yX0_isFree cX0_isFree 4 (some .boolean), Cond.fieldLink RX0 9 "RoomBorn$Filling" "can" "[I", Cond.instanceMethod yX0_workOf, Cond.selects RX0 yX0_workOf yX0_workOf, Cond.code yX0_workOf cX0_workOf 5 (some .int), Cond.methodLink RX0 48 yX0_firstWork, Cond.instanceMethod yX0_firstWork, Cond.selects RX0 yX0_firstWork yX0_firstWork, Cond.code yX0_firstWork cX0_firstWork 4 (some .int)]
def wsX6_fills : List Cond := .code yX6_fills cX6_fills 2 (some .int) :: ((wsX6_fills_r1 ++ (wsX6_fills_r2 ++ wsX6_fills_r3)) ++ wsX60 ++ wsX50 ++ wsX00 ++ wsX10)
def wsX6_carry_r1 : List Cond := [Cond.fieldLink RX6 19 "RoomBorn" "today" "LRoomBorn$Moment;", Cond.fieldLink RX6 55 "RoomBorn" "told" "LRoomBorn$Told;", Cond.fieldLink RX6 41 "RoomBorn" "filling" "LRoomBorn$Filling;", Cond.methodLink RX6 106 yX6_isMother, Cond.instanceMethod yX6_isMother, Cond.selects RX6 yX6_isMother yX6_isMother, Cond.initialized RX6, Cond.code yX6_isMother cX6_isMother 2 (some .boolean), Cond.methodLink RX6 112 yX6_has, Cond.static yX6_has, Cond.code yX6_has cX6_has 2 (some .boolean), Cond.methodLink RX6 170 yX6_bit, Cond.static yX6_bit, Cond.code yX6_bit cX6_bit 1 (some .int), Cond.methodLink RX6 182 yX6_tellFilling, Cond.instanceMethod yX6_tellFilling, Cond.selects RX6 yX6_tellFilling yX6_tellFilling, Cond.code yX6_tellFilling cX6_tellFilling 2 none, Cond.methodLink RX6 122 yX6_worksOfChild, Cond.instanceMethod yX6_worksOfChild, Cond.selects RX6 yX6_worksOfChild yX6_worksOfChild, Cond.code yX6_worksOfChild cX6_worksOfChild 2 (some .int), Cond.instanceMethod yX5_worksAt, Cond.initialized RX5]
def wsX6_carry_r2 : List Cond := [Cond.selects RX5 yX5_worksAt yX5_worksAt, Cond.code yX5_worksAt cX5_worksAt 4 (some .int), Cond.fieldLink RX5 34 "RoomBorn$Told" "works" "I", Cond.methodLink RX5 44 yX5_does, Cond.instanceMethod yX5_does, Cond.selects RX5 yX5_does yX5_does, Cond.code yX5_does cX5_does 3 (some .boolean), Cond.fieldLink RX5 37 "RoomBorn$Told" "life" "I", Cond.methodLink RX5 40 yX5_spans, Cond.instanceMethod yX5_spans, Cond.selects RX5 yX5_spans yX5_spans, Cond.code yX5_spans cX5_spans 3 (some .boolean), Cond.fieldLink RX5 15 "RoomBorn$Told" "low" "[I", Cond.fieldLink RX5 18 "RoomBorn$Told" "high" "[I", Cond.instanceMethod yX1_ageOfRoom, Cond.initialized RX1, Cond.selects RX1 yX1_ageOfRoom yX1_ageOfRoom, Cond.code yX1_ageOfRoom cX1_ageOfRoom 2 (some .int), Cond.fieldLink RX1 15 "RoomBorn$Moment" "joined" "[I", Cond.methodLink RX1 44 yX1_ageTogether, Cond.instanceMethod yX1_ageTogether, Cond.selects RX1 yX1_ageTogether yX1_ageTogether, Cond.code yX1_ageTogether cX1_ageTogether 5 (some .int), Cond.fieldLink RX1 9 "RoomBorn$Moment" "old" "[I"]
def wsX6_carry_r3 : List Cond := [Cond.instanceMethod yX0_solve, Cond.initialized RX0, Cond.selects RX0 yX0_solve yX0_solve, Cond.code yX0_solve cX0_solve 3 (some .int), Cond.fieldLink RX0 24 "RoomBorn$Filling" "works" "I", Cond.fieldLink RX0 17 "RoomBorn$Filling" "most" "[[I", Cond.fieldLink RX0 20 "RoomBorn$Filling" "children" "I", Cond.methodLink RX0 31 yX0_mostFrom, Cond.instanceMethod yX0_mostFrom, Cond.selects RX0 yX0_mostFrom yX0_mostFrom, Cond.code yX0_mostFrom cX0_mostFrom 5 (some .int), Cond.methodLink RX0 39 Lib.Math.max.name, Cond.static Lib.Math.max.name, Cond.initialized "java/lang/Math", Cond.code Lib.Math.max.name Lib.Math.max.code 2 (some .int), Cond.methodLink RX0 35 yX0_isFree, Cond.instanceMethod yX0_isFree, Cond.selects RX0 yX0_isFree yX0_isFree, Cond.code yX0_isFree cX0_isFree 4 (some .boolean), Cond.fieldLink RX0 9 "RoomBorn$Filling" "can" "[I"]
def wsX6_carry : List Cond := .code yX6_carry cX6_carry 7 (some .int) :: ((wsX6_carry_r1 ++ (wsX6_carry_r2 ++ wsX6_carry_r3)) ++ wsX60 ++ wsX10 ++ wsX50 ++ wsX00)
def wsJ6_bitCount_0f7a4 : List Cond := .code yJ6_bitCount_0f7a4 cJ6_bitCount_0f7a4 1 (some .int) :: ([.constant RJ6 265 (1431655765), .constant RJ6 266 (858993459), .constant RJ6 267 (252645135)])
def wsX6_join : List Cond := .code yX6_join cX6_join 6 (some .int) :: ([.fieldLink RX6 55 "RoomBorn" "told" "LRoomBorn$Told;", .fieldLink RX6 19 "RoomBorn" "today" "LRoomBorn$Moment;", .methodLink RX6 170 yX6_bit, .static yX6_bit, .initialized RX6, .code yX6_bit cX6_bit 1 (some .int), .methodLink RX6 197 yJ6_bitCount_0f7a4, .static yJ6_bitCount_0f7a4, .initialized RJ6, .code yJ6_bitCount_0f7a4 cJ6_bitCount_0f7a4 1 (some .int), .constant RJ6 265 (1431655765), .constant RJ6 266 (858993459), .constant RJ6 267 (252645135), .instanceMethod yX1_ageTogether, .initialized RX1, .selects RX1 yX1_ageTogether yX1_ageTogether, .code yX1_ageTogether cX1_ageTogether 5 (some .int), .fieldLink RX1 9 "RoomBorn$Moment" "old" "[I", .static yX6_has, .code yX6_has cX6_has 2 (some .boolean)] ++ wsX60 ++ wsX50 ++ wsX10)
def wsX6_elder : List Cond := .code yX6_elder cX6_elder 3 (some .int) :: ([.fieldLink RX6 55 "RoomBorn" "told" "LRoomBorn$Told;", .fieldLink RX6 19 "RoomBorn" "today" "LRoomBorn$Moment;", .methodLink RX6 112 yX6_has, .static yX6_has, .initialized RX6, .code yX6_has cX6_has 2 (some .boolean), .methodLink RX6 170 yX6_bit, .static yX6_bit, .code yX6_bit cX6_bit 1 (some .int), .instanceMethod yX1_howManyAheadOf, .initialized RX1, .selects RX1 yX1_howManyAheadOf yX1_howManyAheadOf, .code yX1_howManyAheadOf cX1_howManyAheadOf 5 (some .int), .fieldLink RX1 18 "RoomBorn$Moment" "age" "[I", .fieldLink RX1 28 "RoomBorn$Moment" "living" "I"] ++ wsX60 ++ wsX50 ++ wsX10)
def wsX6_power : List Cond := .code yX6_power cX6_power 4 (some .int) :: ([])
def wsX6_roomsToDo_r1 : List Cond := [Cond.fieldLink RX6 55 "RoomBorn" "told" "LRoomBorn$Told;", Cond.fieldLink RX6 19 "RoomBorn" "today" "LRoomBorn$Moment;", Cond.instanceMethod yX1_ageOfRoom, Cond.initialized RX1, Cond.selects RX1 yX1_ageOfRoom yX1_ageOfRoom, Cond.code yX1_ageOfRoom cX1_ageOfRoom 2 (some .int), Cond.fieldLink RX1 15 "RoomBorn$Moment" "joined" "[I", Cond.methodLink RX1 44 yX1_ageTogether, Cond.instanceMethod yX1_ageTogether, Cond.selects RX1 yX1_ageTogether yX1_ageTogether, Cond.code yX1_ageTogether cX1_ageTogether 5 (some .int), Cond.fieldLink RX1 9 "RoomBorn$Moment" "old" "[I", Cond.static yX6_has, Cond.initialized RX6, Cond.code yX6_has cX6_has 2 (some .boolean), Cond.methodLink RX6 170 yX6_bit, Cond.static yX6_bit, Cond.code yX6_bit cX6_bit 1 (some .int), Cond.instanceMethod yX5_does, Cond.initialized RX5, Cond.selects RX5 yX5_does yX5_does, Cond.code yX5_does cX5_does 3 (some .boolean), Cond.fieldLink RX5 37 "RoomBorn$Told" "life" "I", Cond.methodLink RX5 40 yX5_spans]
def wsX6_roomsToDo_r2 : List Cond := [Cond.instanceMethod yX5_spans, Cond.selects RX5 yX5_spans yX5_spans, Cond.code yX5_spans cX5_spans 3 (some .boolean), Cond.fieldLink RX5 15 "RoomBorn$Told" "low" "[I", Cond.fieldLink RX5 18 "RoomBorn$Told" "high" "[I"]
def wsX6_roomsToDo : List Cond := .code yX6_roomsToDo cX6_roomsToDo 4 (some .int) :: ((wsX6_roomsToDo_r1 ++ wsX6_roomsToDo_r2) ++ wsX60 ++ wsX50 ++ wsX10)
def wsX6_greatestDivisor : List Cond := .code yX6_greatestDivisor cX6_greatestDivisor 6 (some .int) :: ([])
def wsX6_odds_r1 : List Cond := [Cond.fieldLink RX6 55 "RoomBorn" "told" "LRoomBorn$Told;", Cond.fieldLink RX6 19 "RoomBorn" "today" "LRoomBorn$Moment;", Cond.methodLink RX6 125 yX6_isWork, Cond.instanceMethod yX6_isWork, Cond.selects RX6 yX6_isWork yX6_isWork, Cond.initialized RX6, Cond.code yX6_isWork cX6_isWork 2 (some .boolean), Cond.methodLink RX6 197 yJ6_bitCount_0f7a4, Cond.static yJ6_bitCount_0f7a4, Cond.initialized RJ6, Cond.code yJ6_bitCount_0f7a4 cJ6_bitCount_0f7a4 1 (some .int), Cond.constant RJ6 265 (1431655765), Cond.constant RJ6 266 (858993459), Cond.constant RJ6 267 (252645135), Cond.methodLink RX6 211 yX6_power, Cond.static yX6_power, Cond.code yX6_power cX6_power 4 (some .int), Cond.methodLink RX6 214 yX6_roomsToDo, Cond.instanceMethod yX6_roomsToDo, Cond.selects RX6 yX6_roomsToDo yX6_roomsToDo, Cond.code yX6_roomsToDo cX6_roomsToDo 4 (some .int), Cond.instanceMethod yX1_ageOfRoom, Cond.initialized RX1, Cond.selects RX1 yX1_ageOfRoom yX1_ageOfRoom]
def wsX6_odds_r2 : List Cond := [Cond.code yX1_ageOfRoom cX1_ageOfRoom 2 (some .int), Cond.fieldLink RX1 15 "RoomBorn$Moment" "joined" "[I", Cond.methodLink RX1 44 yX1_ageTogether, Cond.instanceMethod yX1_ageTogether, Cond.selects RX1 yX1_ageTogether yX1_ageTogether, Cond.code yX1_ageTogether cX1_ageTogether 5 (some .int), Cond.fieldLink RX1 9 "RoomBorn$Moment" "old" "[I", Cond.static yX6_has, Cond.code yX6_has cX6_has 2 (some .boolean), Cond.methodLink RX6 170 yX6_bit, Cond.static yX6_bit, Cond.code yX6_bit cX6_bit 1 (some .int), Cond.instanceMethod yX5_does, Cond.initialized RX5, Cond.selects RX5 yX5_does yX5_does, Cond.code yX5_does cX5_does 3 (some .boolean), Cond.fieldLink RX5 37 "RoomBorn$Told" "life" "I", Cond.methodLink RX5 40 yX5_spans, Cond.instanceMethod yX5_spans, Cond.selects RX5 yX5_spans yX5_spans, Cond.code yX5_spans cX5_spans 3 (some .boolean), Cond.fieldLink RX5 15 "RoomBorn$Told" "low" "[I", Cond.fieldLink RX5 18 "RoomBorn$Told" "high" "[I", Cond.methodLink RX6 217 yX6_greatestDivisor]
def wsX6_odds_r3 : List Cond := [Cond.static yX6_greatestDivisor, Cond.code yX6_greatestDivisor cX6_greatestDivisor 6 (some .int)]
def wsX6_odds : List Cond := .code yX6_odds cX6_odds 7 (some .int) :: ((wsX6_odds_r1 ++ (wsX6_odds_r2 ++ wsX6_odds_r3)) ++ wsX60 ++ wsX50 ++ wsX10)
def wsX6_sees : List Cond := .code yX6_sees cX6_sees 3 (some .int) :: ([.fieldLink RX6 48 "RoomBorn" "seen" "LRoomBorn$Seen;", .methodLink RX6 125 yX6_isWork, .instanceMethod yX6_isWork, .selects RX6 yX6_isWork yX6_isWork, .initialized RX6, .code yX6_isWork cX6_isWork 2 (some .boolean), .fieldLink RX6 55 "RoomBorn" "told" "LRoomBorn$Told;", .instanceMethod yX3_add, .initialized RX3, .selects RX3 yX3_add yX3_add, .code yX3_add cX3_add 3 none, .fieldLink RX3 9 "RoomBorn$Seen" "works" "[I", .fieldLink RX3 19 "RoomBorn$Seen" "known" "I", .fieldLink RX3 15 "RoomBorn$Seen" "could" "[Z"] ++ wsX60 ++ wsX30 ++ wsX50)
def wsX6_forget : List Cond := .code yX6_forget cX6_forget 2 (some .int) :: ([.fieldLink RX6 48 "RoomBorn" "seen" "LRoomBorn$Seen;"] ++ wsX60 ++ wsX30)
def wsX6_possibleAges : List Cond := .code yX6_possibleAges cX6_possibleAges 3 (some .int) :: ([.fieldLink RX6 48 "RoomBorn" "seen" "LRoomBorn$Seen;", .fieldLink RX6 55 "RoomBorn" "told" "LRoomBorn$Told;", .instanceMethod yX3_allows, .initialized RX3, .selects RX3 yX3_allows yX3_allows, .code yX3_allows cX3_allows 4 (some .boolean), .fieldLink RX3 19 "RoomBorn$Seen" "known" "I", .fieldLink RX3 9 "RoomBorn$Seen" "works" "[I", .fieldLink RX3 15 "RoomBorn$Seen" "could" "[Z", .instanceMethod yX5_spans, .initialized RX5, .selects RX5 yX5_spans yX5_spans, .code yX5_spans cX5_spans 3 (some .boolean), .fieldLink RX5 15 "RoomBorn$Told" "low" "[I", .fieldLink RX5 18 "RoomBorn$Told" "high" "[I"] ++ wsX60 ++ wsX30 ++ wsX50)
def wsX6_leastAge : List Cond := .code yX6_leastAge cX6_leastAge 2 (some .int) :: ([.fieldLink RX6 48 "RoomBorn" "seen" "LRoomBorn$Seen;", .fieldLink RX6 55 "RoomBorn" "told" "LRoomBorn$Told;", .instanceMethod yX3_allows, .initialized RX3, .selects RX3 yX3_allows yX3_allows, .code yX3_allows cX3_allows 4 (some .boolean), .fieldLink RX3 19 "RoomBorn$Seen" "known" "I", .fieldLink RX3 9 "RoomBorn$Seen" "works" "[I", .fieldLink RX3 15 "RoomBorn$Seen" "could" "[Z", .instanceMethod yX5_spans, .initialized RX5, .selects RX5 yX5_spans yX5_spans, .code yX5_spans cX5_spans 3 (some .boolean), .fieldLink RX5 15 "RoomBorn$Told" "low" "[I", .fieldLink RX5 18 "RoomBorn$Told" "high" "[I"] ++ wsX60 ++ wsX30 ++ wsX50)
def wsX6_greatestAge : List Cond := .code yX6_greatestAge cX6_greatestAge 2 (some .int) :: ([.fieldLink RX6 48 "RoomBorn" "seen" "LRoomBorn$Seen;", .fieldLink RX6 55 "RoomBorn" "told" "LRoomBorn$Told;", .instanceMethod yX3_allows, .initialized RX3, .selects RX3 yX3_allows yX3_allows, .code yX3_allows cX3_allows 4 (some .boolean), .fieldLink RX3 19 "RoomBorn$Seen" "known" "I", .fieldLink RX3 9 "RoomBorn$Seen" "works" "[I", .fieldLink RX3 15 "RoomBorn$Seen" "could" "[Z", .instanceMethod yX5_spans, .initialized RX5, .selects RX5 yX5_spans yX5_spans, .code yX5_spans cX5_spans 3 (some .boolean), .fieldLink RX5 15 "RoomBorn$Told" "low" "[I", .fieldLink RX5 18 "RoomBorn$Told" "high" "[I"] ++ wsX60 ++ wsX30 ++ wsX50)
def wsX6_ages_r1 : List Cond := [Cond.methodLink RX6 224 yX6_possibleAges, Cond.instanceMethod yX6_possibleAges, Cond.selects RX6 yX6_possibleAges yX6_possibleAges, Cond.initialized RX6, Cond.code yX6_possibleAges cX6_possibleAges 3 (some .int), Cond.fieldLink RX6 48 "RoomBorn" "seen" "LRoomBorn$Seen;", Cond.fieldLink RX6 55 "RoomBorn" "told" "LRoomBorn$Told;", Cond.instanceMethod yX3_allows, Cond.initialized RX3, Cond.selects RX3 yX3_allows yX3_allows, Cond.code yX3_allows cX3_allows 4 (some .boolean), Cond.fieldLink RX3 19 "RoomBorn$Seen" "known" "I", Cond.fieldLink RX3 9 "RoomBorn$Seen" "works" "[I", Cond.fieldLink RX3 15 "RoomBorn$Seen" "could" "[Z", Cond.instanceMethod yX5_spans, Cond.initialized RX5, Cond.selects RX5 yX5_spans yX5_spans, Cond.code yX5_spans cX5_spans 3 (some .boolean), Cond.fieldLink RX5 15 "RoomBorn$Told" "low" "[I", Cond.fieldLink RX5 18 "RoomBorn$Told" "high" "[I", Cond.methodLink RX6 227 yX6_leastAge, Cond.instanceMethod yX6_leastAge, Cond.selects RX6 yX6_leastAge yX6_leastAge, Cond.code yX6_leastAge cX6_leastAge 2 (some .int)]
def wsX6_ages_r2 : List Cond := [Cond.methodLink RX6 230 yX6_greatestAge, Cond.instanceMethod yX6_greatestAge, Cond.selects RX6 yX6_greatestAge yX6_greatestAge, Cond.code yX6_greatestAge cX6_greatestAge 2 (some .int)]
def wsX6_ages : List Cond := .code yX6_ages cX6_ages 2 (some .int) :: ((wsX6_ages_r1 ++ wsX6_ages_r2) ++ wsX60 ++ wsX30 ++ wsX50)
def wsX6_possibleAgesAtWork : List Cond := .code yX6_possibleAgesAtWork cX6_possibleAgesAtWork 4 (some .int) :: ([.fieldLink RX6 55 "RoomBorn" "told" "LRoomBorn$Told;", .fieldLink RX6 48 "RoomBorn" "seen" "LRoomBorn$Seen;", .instanceMethod yX5_spans, .initialized RX5, .selects RX5 yX5_spans yX5_spans, .code yX5_spans cX5_spans 3 (some .boolean), .fieldLink RX5 15 "RoomBorn$Told" "low" "[I", .fieldLink RX5 18 "RoomBorn$Told" "high" "[I", .instanceMethod yX3_allows, .initialized RX3, .selects RX3 yX3_allows yX3_allows, .code yX3_allows cX3_allows 4 (some .boolean), .fieldLink RX3 19 "RoomBorn$Seen" "known" "I", .fieldLink RX3 9 "RoomBorn$Seen" "works" "[I", .fieldLink RX3 15 "RoomBorn$Seen" "could" "[Z"] ++ wsX60 ++ wsX50 ++ wsX30)
def wsX6_next_r1 : List Cond := [Cond.fieldLink RX6 55 "RoomBorn" "told" "LRoomBorn$Told;", Cond.methodLink RX6 239 Lib.Math.max.name, Cond.static Lib.Math.max.name, Cond.initialized "java/lang/Math", Cond.code Lib.Math.max.name Lib.Math.max.code 2 (some .int), Cond.methodLink RX6 224 yX6_possibleAges, Cond.instanceMethod yX6_possibleAges, Cond.selects RX6 yX6_possibleAges yX6_possibleAges, Cond.initialized RX6, Cond.code yX6_possibleAges cX6_possibleAges 3 (some .int), Cond.fieldLink RX6 48 "RoomBorn" "seen" "LRoomBorn$Seen;", Cond.instanceMethod yX3_allows, Cond.initialized RX3, Cond.selects RX3 yX3_allows yX3_allows, Cond.code yX3_allows cX3_allows 4 (some .boolean), Cond.fieldLink RX3 19 "RoomBorn$Seen" "known" "I", Cond.fieldLink RX3 9 "RoomBorn$Seen" "works" "[I", Cond.fieldLink RX3 15 "RoomBorn$Seen" "could" "[Z", Cond.instanceMethod yX5_spans, Cond.initialized RX5, Cond.selects RX5 yX5_spans yX5_spans, Cond.code yX5_spans cX5_spans 3 (some .boolean), Cond.fieldLink RX5 15 "RoomBorn$Told" "low" "[I", Cond.fieldLink RX5 18 "RoomBorn$Told" "high" "[I"]
def wsX6_next_r2 : List Cond := [Cond.methodLink RX6 236 yX6_possibleAgesAtWork, Cond.instanceMethod yX6_possibleAgesAtWork, Cond.selects RX6 yX6_possibleAgesAtWork yX6_possibleAgesAtWork, Cond.code yX6_possibleAgesAtWork cX6_possibleAgesAtWork 4 (some .int)]
def wsX6_next : List Cond := .code yX6_next cX6_next 7 (some .int) :: ((wsX6_next_r1 ++ wsX6_next_r2) ++ wsX60 ++ wsX50 ++ wsX30)
def wsX6_rateChild : List Cond := .code yX6_rateChild cX6_rateChild 2 (some .int) :: ([.fieldLink RX6 62 "RoomBorn" "traced" "J", .fieldLink RX6 19 "RoomBorn" "today" "LRoomBorn$Moment;", .methodLink RX6 112 yX6_has, .static yX6_has, .initialized RX6, .code yX6_has cX6_has 2 (some .boolean), .methodLink RX6 170 yX6_bit, .static yX6_bit, .code yX6_bit cX6_bit 1 (some .int)] ++ wsX60 ++ wsX10)
def wsX6_rateAttic : List Cond := .code yX6_rateAttic cX6_rateAttic 2 (some .int) :: ([.fieldLink RX6 62 "RoomBorn" "traced" "J", .constantLong RX6 283 (10), .fieldLink RX6 19 "RoomBorn" "today" "LRoomBorn$Moment;", .methodLink RX6 260 yX6_rateChild, .instanceMethod yX6_rateChild, .selects RX6 yX6_rateChild yX6_rateChild, .initialized RX6, .code yX6_rateChild cX6_rateChild 2 (some .int), .methodLink RX6 112 yX6_has, .static yX6_has, .code yX6_has cX6_has 2 (some .boolean), .methodLink RX6 170 yX6_bit, .static yX6_bit, .code yX6_bit cX6_bit 1 (some .int)] ++ wsX60 ++ wsX10)
def wsX6_rateCellar_r1 : List Cond := [Cond.fieldLink RX6 62 "RoomBorn" "traced" "J", Cond.constantLong RX6 285 (100), Cond.methodLink RX6 260 yX6_rateChild, Cond.instanceMethod yX6_rateChild, Cond.selects RX6 yX6_rateChild yX6_rateChild, Cond.initialized RX6, Cond.code yX6_rateChild cX6_rateChild 2 (some .int), Cond.fieldLink RX6 19 "RoomBorn" "today" "LRoomBorn$Moment;", Cond.methodLink RX6 112 yX6_has, Cond.static yX6_has, Cond.code yX6_has cX6_has 2 (some .boolean), Cond.methodLink RX6 170 yX6_bit, Cond.static yX6_bit, Cond.code yX6_bit cX6_bit 1 (some .int), Cond.methodLink RX6 122 yX6_worksOfChild, Cond.instanceMethod yX6_worksOfChild, Cond.selects RX6 yX6_worksOfChild yX6_worksOfChild, Cond.code yX6_worksOfChild cX6_worksOfChild 2 (some .int), Cond.fieldLink RX6 55 "RoomBorn" "told" "LRoomBorn$Told;", Cond.instanceMethod yX5_worksAt, Cond.initialized RX5, Cond.selects RX5 yX5_worksAt yX5_worksAt, Cond.code yX5_worksAt cX5_worksAt 4 (some .int), Cond.fieldLink RX5 34 "RoomBorn$Told" "works" "I"]
def wsX6_rateCellar_r2 : List Cond := [Cond.methodLink RX5 44 yX5_does, Cond.instanceMethod yX5_does, Cond.selects RX5 yX5_does yX5_does, Cond.code yX5_does cX5_does 3 (some .boolean), Cond.fieldLink RX5 37 "RoomBorn$Told" "life" "I", Cond.methodLink RX5 40 yX5_spans, Cond.instanceMethod yX5_spans, Cond.selects RX5 yX5_spans yX5_spans, Cond.code yX5_spans cX5_spans 3 (some .boolean), Cond.fieldLink RX5 15 "RoomBorn$Told" "low" "[I", Cond.fieldLink RX5 18 "RoomBorn$Told" "high" "[I", Cond.methodLink RX6 197 yJ6_bitCount_0f7a4, Cond.static yJ6_bitCount_0f7a4, Cond.initialized RJ6, Cond.code yJ6_bitCount_0f7a4 cJ6_bitCount_0f7a4 1 (some .int), Cond.constant RJ6 265 (1431655765), Cond.constant RJ6 266 (858993459), Cond.constant RJ6 267 (252645135)]
def wsX6_rateCellar : List Cond := .code yX6_rateCellar cX6_rateCellar 2 (some .int) :: ((wsX6_rateCellar_r1 ++ wsX6_rateCellar_r2) ++ wsX60 ++ wsX10 ++ wsX50)
def wsX6_rateGable : List Cond := .code yX6_rateGable cX6_rateGable 2 (some .int) :: ([.fieldLink RX6 62 "RoomBorn" "traced" "J", .constantLong RX6 287 (1000), .methodLink RX6 245 yX6_rateAttic, .instanceMethod yX6_rateAttic, .selects RX6 yX6_rateAttic yX6_rateAttic, .initialized RX6, .code yX6_rateAttic cX6_rateAttic 2 (some .int), .constantLong RX6 283 (10), .fieldLink RX6 19 "RoomBorn" "today" "LRoomBorn$Moment;", .methodLink RX6 260 yX6_rateChild, .instanceMethod yX6_rateChild, .selects RX6 yX6_rateChild yX6_rateChild, .code yX6_rateChild cX6_rateChild 2 (some .int), .methodLink RX6 112 yX6_has, .static yX6_has, .code yX6_has cX6_has 2 (some .boolean), .methodLink RX6 170 yX6_bit, .static yX6_bit, .code yX6_bit cX6_bit 1 (some .int)] ++ wsX60 ++ wsX10)
def wsX6_rateCrypt_r1 : List Cond := [Cond.fieldLink RX6 62 "RoomBorn" "traced" "J", Cond.constantLong RX6 289 (10000), Cond.methodLink RX6 248 yX6_rateCellar, Cond.instanceMethod yX6_rateCellar, Cond.selects RX6 yX6_rateCellar yX6_rateCellar, Cond.initialized RX6, Cond.code yX6_rateCellar cX6_rateCellar 2 (some .int), Cond.constantLong RX6 285 (100), Cond.methodLink RX6 260 yX6_rateChild, Cond.instanceMethod yX6_rateChild, Cond.selects RX6 yX6_rateChild yX6_rateChild, Cond.code yX6_rateChild cX6_rateChild 2 (some .int), Cond.fieldLink RX6 19 "RoomBorn" "today" "LRoomBorn$Moment;", Cond.methodLink RX6 112 yX6_has, Cond.static yX6_has, Cond.code yX6_has cX6_has 2 (some .boolean), Cond.methodLink RX6 170 yX6_bit, Cond.static yX6_bit, Cond.code yX6_bit cX6_bit 1 (some .int), Cond.methodLink RX6 122 yX6_worksOfChild, Cond.instanceMethod yX6_worksOfChild, Cond.selects RX6 yX6_worksOfChild yX6_worksOfChild, Cond.code yX6_worksOfChild cX6_worksOfChild 2 (some .int), Cond.fieldLink RX6 55 "RoomBorn" "told" "LRoomBorn$Told;"]
def wsX6_rateCrypt_r2 : List Cond := [Cond.instanceMethod yX5_worksAt, Cond.initialized RX5, Cond.selects RX5 yX5_worksAt yX5_worksAt, Cond.code yX5_worksAt cX5_worksAt 4 (some .int), Cond.fieldLink RX5 34 "RoomBorn$Told" "works" "I", Cond.methodLink RX5 44 yX5_does, Cond.instanceMethod yX5_does, Cond.selects RX5 yX5_does yX5_does, Cond.code yX5_does cX5_does 3 (some .boolean), Cond.fieldLink RX5 37 "RoomBorn$Told" "life" "I", Cond.methodLink RX5 40 yX5_spans, Cond.instanceMethod yX5_spans, Cond.selects RX5 yX5_spans yX5_spans, Cond.code yX5_spans cX5_spans 3 (some .boolean), Cond.fieldLink RX5 15 "RoomBorn$Told" "low" "[I", Cond.fieldLink RX5 18 "RoomBorn$Told" "high" "[I", Cond.methodLink RX6 197 yJ6_bitCount_0f7a4, Cond.static yJ6_bitCount_0f7a4, Cond.initialized RJ6, Cond.code yJ6_bitCount_0f7a4 cJ6_bitCount_0f7a4 1 (some .int), Cond.constant RJ6 265 (1431655765), Cond.constant RJ6 266 (858993459), Cond.constant RJ6 267 (252645135)]
def wsX6_rateCrypt : List Cond := .code yX6_rateCrypt cX6_rateCrypt 2 (some .int) :: ((wsX6_rateCrypt_r1 ++ wsX6_rateCrypt_r2) ++ wsX60 ++ wsX10 ++ wsX50)
def wsX6_rateCart : List Cond := .code yX6_rateCart cX6_rateCart 2 (some .int) :: ([.fieldLink RX6 62 "RoomBorn" "traced" "J", .constantLong RX6 291 (100000), .fieldLink RX6 19 "RoomBorn" "today" "LRoomBorn$Moment;", .methodLink RX6 260 yX6_rateChild, .instanceMethod yX6_rateChild, .selects RX6 yX6_rateChild yX6_rateChild, .initialized RX6, .code yX6_rateChild cX6_rateChild 2 (some .int), .methodLink RX6 112 yX6_has, .static yX6_has, .code yX6_has cX6_has 2 (some .boolean), .methodLink RX6 170 yX6_bit, .static yX6_bit, .code yX6_bit cX6_bit 1 (some .int), .methodLink RX6 197 yJ6_bitCount_0f7a4, .static yJ6_bitCount_0f7a4, .initialized RJ6, .code yJ6_bitCount_0f7a4 cJ6_bitCount_0f7a4 1 (some .int), .constant RJ6 265 (1431655765), .constant RJ6 266 (858993459), .constant RJ6 267 (252645135)] ++ wsX60 ++ wsX10)
def wsX6_rate_r1 : List Cond := [Cond.constant RX6 244 (-1000000), Cond.methodLink RX6 106 yX6_isMother, Cond.instanceMethod yX6_isMother, Cond.selects RX6 yX6_isMother yX6_isMother, Cond.initialized RX6, Cond.code yX6_isMother cX6_isMother 2 (some .boolean), Cond.fieldLink RX6 55 "RoomBorn" "told" "LRoomBorn$Told;", Cond.methodLink RX6 245 yX6_rateAttic, Cond.instanceMethod yX6_rateAttic, Cond.selects RX6 yX6_rateAttic yX6_rateAttic, Cond.code yX6_rateAttic cX6_rateAttic 2 (some .int), Cond.fieldLink RX6 62 "RoomBorn" "traced" "J", Cond.constantLong RX6 283 (10), Cond.fieldLink RX6 19 "RoomBorn" "today" "LRoomBorn$Moment;", Cond.methodLink RX6 260 yX6_rateChild, Cond.instanceMethod yX6_rateChild, Cond.selects RX6 yX6_rateChild yX6_rateChild, Cond.code yX6_rateChild cX6_rateChild 2 (some .int), Cond.methodLink RX6 112 yX6_has, Cond.static yX6_has, Cond.code yX6_has cX6_has 2 (some .boolean), Cond.methodLink RX6 170 yX6_bit, Cond.static yX6_bit, Cond.code yX6_bit cX6_bit 1 (some .int)]
def wsX6_rate_r2 : List Cond := [Cond.methodLink RX6 248 yX6_rateCellar, Cond.instanceMethod yX6_rateCellar, Cond.selects RX6 yX6_rateCellar yX6_rateCellar, Cond.code yX6_rateCellar cX6_rateCellar 2 (some .int), Cond.constantLong RX6 285 (100), Cond.methodLink RX6 122 yX6_worksOfChild, Cond.instanceMethod yX6_worksOfChild, Cond.selects RX6 yX6_worksOfChild yX6_worksOfChild, Cond.code yX6_worksOfChild cX6_worksOfChild 2 (some .int), Cond.instanceMethod yX5_worksAt, Cond.initialized RX5, Cond.selects RX5 yX5_worksAt yX5_worksAt, Cond.code yX5_worksAt cX5_worksAt 4 (some .int), Cond.fieldLink RX5 34 "RoomBorn$Told" "works" "I", Cond.methodLink RX5 44 yX5_does, Cond.instanceMethod yX5_does, Cond.selects RX5 yX5_does yX5_does, Cond.code yX5_does cX5_does 3 (some .boolean), Cond.fieldLink RX5 37 "RoomBorn$Told" "life" "I", Cond.methodLink RX5 40 yX5_spans, Cond.instanceMethod yX5_spans, Cond.selects RX5 yX5_spans yX5_spans, Cond.code yX5_spans cX5_spans 3 (some .boolean), Cond.fieldLink RX5 15 "RoomBorn$Told" "low" "[I"]
def wsX6_rate_r3 : List Cond := [Cond.fieldLink RX5 18 "RoomBorn$Told" "high" "[I", Cond.methodLink RX6 197 yJ6_bitCount_0f7a4, Cond.static yJ6_bitCount_0f7a4, Cond.initialized RJ6, Cond.code yJ6_bitCount_0f7a4 cJ6_bitCount_0f7a4 1 (some .int), Cond.constant RJ6 265 (1431655765), Cond.constant RJ6 266 (858993459), Cond.constant RJ6 267 (252645135), Cond.methodLink RX6 251 yX6_rateGable, Cond.instanceMethod yX6_rateGable, Cond.selects RX6 yX6_rateGable yX6_rateGable, Cond.code yX6_rateGable cX6_rateGable 2 (some .int), Cond.constantLong RX6 287 (1000), Cond.methodLink RX6 254 yX6_rateCrypt, Cond.instanceMethod yX6_rateCrypt, Cond.selects RX6 yX6_rateCrypt yX6_rateCrypt, Cond.code yX6_rateCrypt cX6_rateCrypt 2 (some .int), Cond.constantLong RX6 289 (10000), Cond.methodLink RX6 257 yX6_rateCart, Cond.instanceMethod yX6_rateCart, Cond.selects RX6 yX6_rateCart yX6_rateCart, Cond.code yX6_rateCart cX6_rateCart 2 (some .int), Cond.constantLong RX6 291 (100000)]
def wsX6_rate : List Cond := .code yX6_rate cX6_rate 3 (some .int) :: ((wsX6_rate_r1 ++ (wsX6_rate_r2 ++ wsX6_rate_r3)) ++ wsX60 ++ wsX50 ++ wsX10)
def wsX6_isImage : List Cond := .code yX6_isImage cX6_isImage 1 (some .boolean) :: ([])
def wsX6_keep : List Cond := .code yX6_keep cX6_keep 2 (some .int) :: ([.fieldLink RX6 30 "RoomBorn" "images" "[LRoomBorn$Moment;", .fieldLink RX6 19 "RoomBorn" "today" "LRoomBorn$Moment;", .fieldLink RX6 34 "RoomBorn" "kept" "[Z", .methodLink RX6 263 yX6_isImage, .static yX6_isImage, .initialized RX6, .code yX6_isImage cX6_isImage 1 (some .boolean), .instanceMethod yX1_become, .initialized RX1, .selects RX1 yX1_become yX1_become, .code yX1_become cX1_become 2 none, .fieldLink RX1 21 "RoomBorn$Moment" "yearNumber" "I", .fieldLink RX1 25 "RoomBorn$Moment" "born" "I", .fieldLink RX1 28 "RoomBorn$Moment" "living" "I", .fieldLink RX1 9 "RoomBorn$Moment" "old" "[I", .methodLink RX1 38 arraycopyName, .native arraycopyName, .static arraycopyName, .initialized "java/lang/System", .fieldLink RX1 15 "RoomBorn$Moment" "joined" "[I", .fieldLink RX1 18 "RoomBorn$Moment" "age" "[I"] ++ wsX60 ++ wsX10)
def wsX6_back : List Cond := .code yX6_back cX6_back 2 (some .int) :: ([.fieldLink RX6 34 "RoomBorn" "kept" "[Z", .fieldLink RX6 19 "RoomBorn" "today" "LRoomBorn$Moment;", .fieldLink RX6 30 "RoomBorn" "images" "[LRoomBorn$Moment;", .fieldLink RX6 26 "RoomBorn" "past" "LRoomBorn$Past;", .methodLink RX6 263 yX6_isImage, .static yX6_isImage, .initialized RX6, .code yX6_isImage cX6_isImage 1 (some .boolean), .instanceMethod yX1_become, .initialized RX1, .selects RX1 yX1_become yX1_become, .code yX1_become cX1_become 2 none, .fieldLink RX1 21 "RoomBorn$Moment" "yearNumber" "I", .fieldLink RX1 25 "RoomBorn$Moment" "born" "I", .fieldLink RX1 28 "RoomBorn$Moment" "living" "I", .fieldLink RX1 9 "RoomBorn$Moment" "old" "[I", .methodLink RX1 38 arraycopyName, .native arraycopyName, .static arraycopyName, .initialized "java/lang/System", .fieldLink RX1 15 "RoomBorn$Moment" "joined" "[I", .fieldLink RX1 18 "RoomBorn$Moment" "age" "[I"] ++ wsX60 ++ wsX20 ++ wsX10)
def wsX6_count : List Cond := .code yX6_count cX6_count 2 (some .int) :: ([.fieldLink RX6 55 "RoomBorn" "told" "LRoomBorn$Told;", .fieldLink RX6 48 "RoomBorn" "seen" "LRoomBorn$Seen;", .fieldLink RX6 10 "RoomBorn" "text" "LRoomBorn$Text;"] ++ wsX60 ++ wsX50 ++ wsX30 ++ wsX40)
def wsX6_trace : List Cond := .code yX6_trace cX6_trace 1 (some .long) :: ([.fieldLink RX6 62 "RoomBorn" "traced" "J"] ++ wsX60)
def wsX7_begins : List Cond := .code yX7_begins cX7_begins 1 none :: ([.fieldLink RX7 104 "RoomBornModel" "told" "I", .fieldLink RX7 13 "RoomBornModel" "many" "[I"] ++ wsX70)
def wsX7_settles : List Cond := .code yX7_settles cX7_settles 2 none :: ([.fieldLink RX7 13 "RoomBornModel" "many" "[I", .fieldLink RX7 19 "RoomBornModel" "low" "[I", .fieldLink RX7 22 "RoomBornModel" "high" "[I", .fieldLink RX7 25 "RoomBornModel" "s" "[I", .fieldLink RX7 16 "RoomBornModel" "oldTold" "[I", .fieldLink RX7 67 "RoomBornModel" "typed" "I", .fieldLink RX7 118 "RoomBornModel" "seenMany" "I", .fieldLink RX7 121 "RoomBornModel" "undoMany" "I", .fieldLink RX7 31 "RoomBornModel" "isKept" "[Z"] ++ wsX70)
def wsX7_init_r1 : List Cond := [Cond.methodLink RX7 1 objectInit, Cond.instanceMethod objectInit, Cond.code objectInit ⟨#[0xb1]⟩ 1 none, Cond.arrayClass .int, Cond.fieldLink RX7 7 "RoomBornModel" "text" "[I", Cond.fieldLink RX7 13 "RoomBornModel" "many" "[I", Cond.fieldLink RX7 16 "RoomBornModel" "oldTold" "[I", Cond.fieldLink RX7 19 "RoomBornModel" "low" "[I", Cond.fieldLink RX7 22 "RoomBornModel" "high" "[I", Cond.fieldLink RX7 25 "RoomBornModel" "s" "[I", Cond.fieldLink RX7 28 "RoomBornModel" "kept" "[I", Cond.arrayClass .boolean, Cond.fieldLink RX7 31 "RoomBornModel" "isKept" "[Z", Cond.fieldLink RX7 35 "RoomBornModel" "undos" "[I", Cond.fieldLink RX7 38 "RoomBornModel" "seenBy" "[I", Cond.fieldLink RX7 41 "RoomBornModel" "seen" "[I", Cond.fieldLink RX7 44 "RoomBornModel" "can" "[I", Cond.fieldLink RX7 47 "RoomBornModel" "does" "[I", Cond.fieldLink RX7 50 "RoomBornModel" "best" "[I", Cond.methodLink RX7 53 yX7_begins, Cond.instanceMethod yX7_begins, Cond.selects RX7 yX7_begins yX7_begins, Cond.initialized RX7, Cond.code yX7_begins cX7_begins 1 none]
def wsX7_init_r2 : List Cond := [Cond.fieldLink RX7 104 "RoomBornModel" "told" "I", Cond.methodLink RX7 56 yX7_settles, Cond.instanceMethod yX7_settles, Cond.selects RX7 yX7_settles yX7_settles, Cond.code yX7_settles cX7_settles 2 none, Cond.fieldLink RX7 67 "RoomBornModel" "typed" "I", Cond.fieldLink RX7 118 "RoomBornModel" "seenMany" "I", Cond.fieldLink RX7 121 "RoomBornModel" "undoMany" "I"]
def wsX7_init : List Cond := .code yX7_init cX7_init 1 none :: ((wsX7_init_r1 ++ wsX7_init_r2) ++ wsX70)
def wsX7_in : List Cond := .code yX7_in cX7_in 3 (some .boolean) :: ([])
def wsX7_has : List Cond := .code yX7_has cX7_has 2 (some .boolean) :: ([])
def wsX7_ones : List Cond := .code yX7_ones cX7_ones 3 (some .int) :: ([])
def wsX7_type : List Cond := .code yX7_type cX7_type 2 (some .int) :: ([.fieldLink RX7 59 "RoomBornModel" "thrown" "I", .fieldLink RX7 67 "RoomBornModel" "typed" "I", .fieldLink RX7 7 "RoomBornModel" "text" "[I", .methodLink RX7 63 yX7_in, .static yX7_in, .initialized RX7, .code yX7_in cX7_in 3 (some .boolean)] ++ wsX70)
def wsX7_clear : List Cond := .code yX7_clear cX7_clear 2 (some .int) :: ([.fieldLink RX7 59 "RoomBornModel" "thrown" "I", .fieldLink RX7 67 "RoomBornModel" "typed" "I"] ++ wsX70)
def wsX7_letterAt : List Cond := .code yX7_letterAt cX7_letterAt 2 (some .int) :: ([.fieldLink RX7 67 "RoomBornModel" "typed" "I", .fieldLink RX7 7 "RoomBornModel" "text" "[I"] ++ wsX70)
def wsX7_isLetter : List Cond := .code yX7_isLetter cX7_isLetter 1 (some .boolean) :: ([])
def wsX7_advances : List Cond := .code yX7_advances cX7_advances 2 none :: ([.fieldLink RX7 70 "RoomBornModel" "at" "I", .fieldLink RX7 77 "RoomBornModel" "place" "I", .fieldLink RX7 80 "RoomBornModel" "token" "I", .fieldLink RX7 83 "RoomBornModel" "value" "I", .methodLink RX7 73 yX7_letterAt, .instanceMethod yX7_letterAt, .selects RX7 yX7_letterAt yX7_letterAt, .initialized RX7, .code yX7_letterAt cX7_letterAt 2 (some .int), .fieldLink RX7 67 "RoomBornModel" "typed" "I", .fieldLink RX7 7 "RoomBornModel" "text" "[I", .methodLink RX7 63 yX7_in, .static yX7_in, .code yX7_in cX7_in 3 (some .boolean), .methodLink RX7 86 yX7_isLetter, .static yX7_isLetter, .code yX7_isLetter cX7_isLetter 1 (some .boolean)] ++ wsX70)
def wsX7_isWell : List Cond := .code yX7_isWell cX7_isWell 1 (some .boolean) :: ([.fieldLink RX7 90 "RoomBornModel" "fault" "I"] ++ wsX70)
def wsX7_takes_r1 : List Cond := [Cond.fieldLink RX7 77 "RoomBornModel" "place" "I", Cond.fieldLink RX7 90 "RoomBornModel" "fault" "I", Cond.fieldLink RX7 83 "RoomBornModel" "value" "I", Cond.methodLink RX7 93 yX7_isWell, Cond.instanceMethod yX7_isWell, Cond.selects RX7 yX7_isWell yX7_isWell, Cond.initialized RX7, Cond.code yX7_isWell cX7_isWell 1 (some .boolean), Cond.methodLink RX7 97 yX7_advances, Cond.instanceMethod yX7_advances, Cond.selects RX7 yX7_advances yX7_advances, Cond.code yX7_advances cX7_advances 2 none, Cond.fieldLink RX7 70 "RoomBornModel" "at" "I", Cond.fieldLink RX7 80 "RoomBornModel" "token" "I", Cond.methodLink RX7 73 yX7_letterAt, Cond.instanceMethod yX7_letterAt, Cond.selects RX7 yX7_letterAt yX7_letterAt, Cond.code yX7_letterAt cX7_letterAt 2 (some .int), Cond.fieldLink RX7 67 "RoomBornModel" "typed" "I", Cond.fieldLink RX7 7 "RoomBornModel" "text" "[I", Cond.methodLink RX7 63 yX7_in, Cond.static yX7_in, Cond.code yX7_in cX7_in 3 (some .boolean), Cond.methodLink RX7 86 yX7_isLetter]
def wsX7_takes_r2 : List Cond := [Cond.static yX7_isLetter, Cond.code yX7_isLetter cX7_isLetter 1 (some .boolean)]
def wsX7_takes : List Cond := .code yX7_takes cX7_takes 3 (some .int) :: ((wsX7_takes_r1 ++ wsX7_takes_r2) ++ wsX70)
def wsX7_number_r1 : List Cond := [Cond.fieldLink RX7 80 "RoomBornModel" "token" "I", Cond.fieldLink RX7 83 "RoomBornModel" "value" "I", Cond.methodLink RX7 63 yX7_in, Cond.static yX7_in, Cond.initialized RX7, Cond.code yX7_in cX7_in 3 (some .boolean), Cond.methodLink RX7 100 yX7_takes, Cond.instanceMethod yX7_takes, Cond.selects RX7 yX7_takes yX7_takes, Cond.code yX7_takes cX7_takes 3 (some .int), Cond.fieldLink RX7 77 "RoomBornModel" "place" "I", Cond.fieldLink RX7 90 "RoomBornModel" "fault" "I", Cond.methodLink RX7 93 yX7_isWell, Cond.instanceMethod yX7_isWell, Cond.selects RX7 yX7_isWell yX7_isWell, Cond.code yX7_isWell cX7_isWell 1 (some .boolean), Cond.methodLink RX7 97 yX7_advances, Cond.instanceMethod yX7_advances, Cond.selects RX7 yX7_advances yX7_advances, Cond.code yX7_advances cX7_advances 2 none, Cond.fieldLink RX7 70 "RoomBornModel" "at" "I", Cond.methodLink RX7 73 yX7_letterAt, Cond.instanceMethod yX7_letterAt, Cond.selects RX7 yX7_letterAt yX7_letterAt]
def wsX7_number_r2 : List Cond := [Cond.code yX7_letterAt cX7_letterAt 2 (some .int), Cond.fieldLink RX7 67 "RoomBornModel" "typed" "I", Cond.fieldLink RX7 7 "RoomBornModel" "text" "[I", Cond.methodLink RX7 86 yX7_isLetter, Cond.static yX7_isLetter, Cond.code yX7_isLetter cX7_isLetter 1 (some .boolean)]
def wsX7_number : List Cond := .code yX7_number cX7_number 3 (some .int) :: ((wsX7_number_r1 ++ wsX7_number_r2) ++ wsX70)
def wsX7_mayBegin : List Cond := .code yX7_mayBegin cX7_mayBegin 1 (some .boolean) :: ([.fieldLink RX7 83 "RoomBornModel" "value" "I", .fieldLink RX7 13 "RoomBornModel" "many" "[I", .fieldLink RX7 104 "RoomBornModel" "told" "I"] ++ wsX70)
def wsX7_readsItem_r1 : List Cond := [Cond.fieldLink RX7 16 "RoomBornModel" "oldTold" "[I", Cond.fieldLink RX7 13 "RoomBornModel" "many" "[I", Cond.fieldLink RX7 19 "RoomBornModel" "low" "[I", Cond.fieldLink RX7 22 "RoomBornModel" "high" "[I", Cond.fieldLink RX7 104 "RoomBornModel" "told" "I", Cond.methodLink RX7 107 yX7_number, Cond.instanceMethod yX7_number, Cond.selects RX7 yX7_number yX7_number, Cond.initialized RX7, Cond.code yX7_number cX7_number 3 (some .int), Cond.fieldLink RX7 80 "RoomBornModel" "token" "I", Cond.fieldLink RX7 83 "RoomBornModel" "value" "I", Cond.methodLink RX7 63 yX7_in, Cond.static yX7_in, Cond.code yX7_in cX7_in 3 (some .boolean), Cond.methodLink RX7 100 yX7_takes, Cond.instanceMethod yX7_takes, Cond.selects RX7 yX7_takes yX7_takes, Cond.code yX7_takes cX7_takes 3 (some .int), Cond.fieldLink RX7 77 "RoomBornModel" "place" "I", Cond.fieldLink RX7 90 "RoomBornModel" "fault" "I", Cond.methodLink RX7 93 yX7_isWell, Cond.instanceMethod yX7_isWell, Cond.selects RX7 yX7_isWell yX7_isWell]
def wsX7_readsItem_r2 : List Cond := [Cond.code yX7_isWell cX7_isWell 1 (some .boolean), Cond.methodLink RX7 97 yX7_advances, Cond.instanceMethod yX7_advances, Cond.selects RX7 yX7_advances yX7_advances, Cond.code yX7_advances cX7_advances 2 none, Cond.fieldLink RX7 70 "RoomBornModel" "at" "I", Cond.methodLink RX7 73 yX7_letterAt, Cond.instanceMethod yX7_letterAt, Cond.selects RX7 yX7_letterAt yX7_letterAt, Cond.code yX7_letterAt cX7_letterAt 2 (some .int), Cond.fieldLink RX7 67 "RoomBornModel" "typed" "I", Cond.fieldLink RX7 7 "RoomBornModel" "text" "[I", Cond.methodLink RX7 86 yX7_isLetter, Cond.static yX7_isLetter, Cond.code yX7_isLetter cX7_isLetter 1 (some .boolean)]
def wsX7_readsItem : List Cond := .code yX7_readsItem cX7_readsItem 3 none :: ((wsX7_readsItem_r1 ++ wsX7_readsItem_r2) ++ wsX70)
def wsX7_town_r1 : List Cond := [Cond.fieldLink RX7 59 "RoomBornModel" "thrown" "I", Cond.fieldLink RX7 90 "RoomBornModel" "fault" "I", Cond.fieldLink RX7 70 "RoomBornModel" "at" "I", Cond.fieldLink RX7 80 "RoomBornModel" "token" "I", Cond.methodLink RX7 53 yX7_begins, Cond.instanceMethod yX7_begins, Cond.selects RX7 yX7_begins yX7_begins, Cond.initialized RX7, Cond.code yX7_begins cX7_begins 1 none, Cond.fieldLink RX7 104 "RoomBornModel" "told" "I", Cond.fieldLink RX7 13 "RoomBornModel" "many" "[I", Cond.methodLink RX7 97 yX7_advances, Cond.instanceMethod yX7_advances, Cond.selects RX7 yX7_advances yX7_advances, Cond.code yX7_advances cX7_advances 2 none, Cond.fieldLink RX7 77 "RoomBornModel" "place" "I", Cond.fieldLink RX7 83 "RoomBornModel" "value" "I", Cond.methodLink RX7 73 yX7_letterAt, Cond.instanceMethod yX7_letterAt, Cond.selects RX7 yX7_letterAt yX7_letterAt, Cond.code yX7_letterAt cX7_letterAt 2 (some .int), Cond.fieldLink RX7 67 "RoomBornModel" "typed" "I", Cond.fieldLink RX7 7 "RoomBornModel" "text" "[I", Cond.methodLink RX7 63 yX7_in]
def wsX7_town_r2 : List Cond := [Cond.static yX7_in, Cond.code yX7_in cX7_in 3 (some .boolean), Cond.methodLink RX7 86 yX7_isLetter, Cond.static yX7_isLetter, Cond.code yX7_isLetter cX7_isLetter 1 (some .boolean), Cond.methodLink RX7 93 yX7_isWell, Cond.instanceMethod yX7_isWell, Cond.selects RX7 yX7_isWell yX7_isWell, Cond.code yX7_isWell cX7_isWell 1 (some .boolean), Cond.methodLink RX7 111 yX7_mayBegin, Cond.instanceMethod yX7_mayBegin, Cond.selects RX7 yX7_mayBegin yX7_mayBegin, Cond.code yX7_mayBegin cX7_mayBegin 1 (some .boolean), Cond.methodLink RX7 100 yX7_takes, Cond.instanceMethod yX7_takes, Cond.selects RX7 yX7_takes yX7_takes, Cond.code yX7_takes cX7_takes 3 (some .int), Cond.methodLink RX7 114 yX7_readsItem, Cond.instanceMethod yX7_readsItem, Cond.selects RX7 yX7_readsItem yX7_readsItem, Cond.code yX7_readsItem cX7_readsItem 3 none, Cond.fieldLink RX7 16 "RoomBornModel" "oldTold" "[I", Cond.fieldLink RX7 19 "RoomBornModel" "low" "[I", Cond.fieldLink RX7 22 "RoomBornModel" "high" "[I"]
def wsX7_town_r3 : List Cond := [Cond.methodLink RX7 107 yX7_number, Cond.instanceMethod yX7_number, Cond.selects RX7 yX7_number yX7_number, Cond.code yX7_number cX7_number 3 (some .int), Cond.methodLink RX7 56 yX7_settles, Cond.instanceMethod yX7_settles, Cond.selects RX7 yX7_settles yX7_settles, Cond.code yX7_settles cX7_settles 2 none, Cond.fieldLink RX7 25 "RoomBornModel" "s" "[I", Cond.fieldLink RX7 118 "RoomBornModel" "seenMany" "I", Cond.fieldLink RX7 121 "RoomBornModel" "undoMany" "I", Cond.fieldLink RX7 31 "RoomBornModel" "isKept" "[Z"]
def wsX7_town : List Cond := .code yX7_town cX7_town 3 (some .int) :: ((wsX7_town_r1 ++ (wsX7_town_r2 ++ wsX7_town_r3)) ++ wsX70)
def wsX7_isRoom : List Cond := .code yX7_isRoom cX7_isRoom 2 (some .boolean) :: ([.fieldLink RX7 13 "RoomBornModel" "many" "[I", .methodLink RX7 63 yX7_in, .static yX7_in, .initialized RX7, .code yX7_in cX7_in 3 (some .boolean)] ++ wsX70)
def wsX7_isChild : List Cond := .code yX7_isChild cX7_isChild 2 (some .boolean) :: ([.fieldLink RX7 13 "RoomBornModel" "many" "[I", .methodLink RX7 63 yX7_in, .static yX7_in, .initialized RX7, .code yX7_in cX7_in 3 (some .boolean)] ++ wsX70)
def wsX7_isWork : List Cond := .code yX7_isWork cX7_isWork 2 (some .boolean) :: ([.fieldLink RX7 13 "RoomBornModel" "many" "[I", .methodLink RX7 63 yX7_in, .static yX7_in, .initialized RX7, .code yX7_in cX7_in 3 (some .boolean)] ++ wsX70)
def wsX7_joinedWith : List Cond := .code yX7_joinedWith cX7_joinedWith 4 (some .int) :: ([.fieldLink RX7 13 "RoomBornModel" "many" "[I", .fieldLink RX7 25 "RoomBornModel" "s" "[I"] ++ wsX70)
def wsX7_ageBy : List Cond := .code yX7_ageBy cX7_ageBy 4 (some .int) :: ([.fieldLink RX7 13 "RoomBornModel" "many" "[I", .fieldLink RX7 25 "RoomBornModel" "s" "[I", .methodLink RX7 124 yX7_has, .static yX7_has, .initialized RX7, .code yX7_has cX7_has 2 (some .boolean), .methodLink RX7 128 yX7_ones, .static yX7_ones, .code yX7_ones cX7_ones 3 (some .int)] ++ wsX70)
def wsX7_ageOf : List Cond := .code yX7_ageOf cX7_ageOf 2 (some .int) :: ([.methodLink RX7 131 yX7_joinedWith, .instanceMethod yX7_joinedWith, .selects RX7 yX7_joinedWith yX7_joinedWith, .initialized RX7, .code yX7_joinedWith cX7_joinedWith 4 (some .int), .fieldLink RX7 13 "RoomBornModel" "many" "[I", .fieldLink RX7 25 "RoomBornModel" "s" "[I", .methodLink RX7 134 yX7_ageBy, .instanceMethod yX7_ageBy, .selects RX7 yX7_ageBy yX7_ageBy, .code yX7_ageBy cX7_ageBy 4 (some .int), .methodLink RX7 124 yX7_has, .static yX7_has, .code yX7_has cX7_has 2 (some .boolean), .methodLink RX7 128 yX7_ones, .static yX7_ones, .code yX7_ones cX7_ones 3 (some .int)] ++ wsX70)
def wsX7_worksAt : List Cond := .code yX7_worksAt cX7_worksAt 4 (some .int) :: ([.fieldLink RX7 13 "RoomBornModel" "many" "[I", .fieldLink RX7 19 "RoomBornModel" "low" "[I", .fieldLink RX7 22 "RoomBornModel" "high" "[I", .methodLink RX7 63 yX7_in, .static yX7_in, .initialized RX7, .code yX7_in cX7_in 3 (some .boolean)] ++ wsX70)
def wsX7_worksOf : List Cond := .code yX7_worksOf cX7_worksOf 2 (some .int) :: ([.fieldLink RX7 25 "RoomBornModel" "s" "[I", .methodLink RX7 124 yX7_has, .static yX7_has, .initialized RX7, .code yX7_has cX7_has 2 (some .boolean), .methodLink RX7 137 yX7_worksAt, .instanceMethod yX7_worksAt, .selects RX7 yX7_worksAt yX7_worksAt, .code yX7_worksAt cX7_worksAt 4 (some .int), .fieldLink RX7 13 "RoomBornModel" "many" "[I", .fieldLink RX7 19 "RoomBornModel" "low" "[I", .fieldLink RX7 22 "RoomBornModel" "high" "[I", .methodLink RX7 63 yX7_in, .static yX7_in, .code yX7_in cX7_in 3 (some .boolean)] ++ wsX70)
def wsX7_whoCan : List Cond := .code yX7_whoCan cX7_whoCan 4 (some .int) :: ([.fieldLink RX7 13 "RoomBornModel" "many" "[I", .methodLink RX7 140 yX7_worksOf, .instanceMethod yX7_worksOf, .selects RX7 yX7_worksOf yX7_worksOf, .initialized RX7, .code yX7_worksOf cX7_worksOf 2 (some .int), .fieldLink RX7 25 "RoomBornModel" "s" "[I", .methodLink RX7 124 yX7_has, .static yX7_has, .code yX7_has cX7_has 2 (some .boolean), .methodLink RX7 137 yX7_worksAt, .instanceMethod yX7_worksAt, .selects RX7 yX7_worksAt yX7_worksAt, .code yX7_worksAt cX7_worksAt 4 (some .int), .fieldLink RX7 19 "RoomBornModel" "low" "[I", .fieldLink RX7 22 "RoomBornModel" "high" "[I", .methodLink RX7 63 yX7_in, .static yX7_in, .code yX7_in cX7_in 3 (some .boolean)] ++ wsX70)
def wsX7_isDoneIn : List Cond := .code yX7_isDoneIn cX7_isDoneIn 6 (some .boolean) :: ([.fieldLink RX7 13 "RoomBornModel" "many" "[I", .fieldLink RX7 25 "RoomBornModel" "s" "[I", .fieldLink RX7 19 "RoomBornModel" "low" "[I", .fieldLink RX7 22 "RoomBornModel" "high" "[I", .methodLink RX7 124 yX7_has, .static yX7_has, .initialized RX7, .code yX7_has cX7_has 2 (some .boolean), .methodLink RX7 63 yX7_in, .static yX7_in, .code yX7_in cX7_in 3 (some .boolean)] ++ wsX70)
def wsX7_lastsOf : List Cond := .code yX7_lastsOf cX7_lastsOf 3 (some .int) :: ([.methodLink RX7 143 yX7_isDoneIn, .instanceMethod yX7_isDoneIn, .selects RX7 yX7_isDoneIn yX7_isDoneIn, .initialized RX7, .code yX7_isDoneIn cX7_isDoneIn 6 (some .boolean), .fieldLink RX7 13 "RoomBornModel" "many" "[I", .fieldLink RX7 25 "RoomBornModel" "s" "[I", .fieldLink RX7 19 "RoomBornModel" "low" "[I", .fieldLink RX7 22 "RoomBornModel" "high" "[I", .methodLink RX7 124 yX7_has, .static yX7_has, .code yX7_has cX7_has 2 (some .boolean), .methodLink RX7 63 yX7_in, .static yX7_in, .code yX7_in cX7_in 3 (some .boolean)] ++ wsX70)
def wsX7_room_r1 : List Cond := [Cond.fieldLink RX7 59 "RoomBornModel" "thrown" "I", Cond.fieldLink RX7 25 "RoomBornModel" "s" "[I", Cond.methodLink RX7 146 yX7_isRoom, Cond.instanceMethod yX7_isRoom, Cond.selects RX7 yX7_isRoom yX7_isRoom, Cond.initialized RX7, Cond.code yX7_isRoom cX7_isRoom 2 (some .boolean), Cond.fieldLink RX7 13 "RoomBornModel" "many" "[I", Cond.methodLink RX7 63 yX7_in, Cond.static yX7_in, Cond.code yX7_in cX7_in 3 (some .boolean), Cond.methodLink RX7 149 yX7_ageOf, Cond.instanceMethod yX7_ageOf, Cond.selects RX7 yX7_ageOf yX7_ageOf, Cond.code yX7_ageOf cX7_ageOf 2 (some .int), Cond.methodLink RX7 131 yX7_joinedWith, Cond.instanceMethod yX7_joinedWith, Cond.selects RX7 yX7_joinedWith yX7_joinedWith, Cond.code yX7_joinedWith cX7_joinedWith 4 (some .int), Cond.methodLink RX7 134 yX7_ageBy, Cond.instanceMethod yX7_ageBy, Cond.selects RX7 yX7_ageBy yX7_ageBy, Cond.code yX7_ageBy cX7_ageBy 4 (some .int), Cond.methodLink RX7 124 yX7_has]
def wsX7_room_r2 : List Cond := [Cond.static yX7_has, Cond.code yX7_has cX7_has 2 (some .boolean), Cond.methodLink RX7 128 yX7_ones, Cond.static yX7_ones, Cond.code yX7_ones cX7_ones 3 (some .int)]
def wsX7_room : List Cond := .code yX7_room cX7_room 3 (some .int) :: ((wsX7_room_r1 ++ wsX7_room_r2) ++ wsX70)
def wsX7_child : List Cond := .code yX7_child cX7_child 3 (some .int) :: ([.fieldLink RX7 59 "RoomBornModel" "thrown" "I", .fieldLink RX7 25 "RoomBornModel" "s" "[I", .methodLink RX7 152 yX7_isChild, .instanceMethod yX7_isChild, .selects RX7 yX7_isChild yX7_isChild, .initialized RX7, .code yX7_isChild cX7_isChild 2 (some .boolean), .fieldLink RX7 13 "RoomBornModel" "many" "[I", .methodLink RX7 63 yX7_in, .static yX7_in, .code yX7_in cX7_in 3 (some .boolean), .methodLink RX7 140 yX7_worksOf, .instanceMethod yX7_worksOf, .selects RX7 yX7_worksOf yX7_worksOf, .code yX7_worksOf cX7_worksOf 2 (some .int), .methodLink RX7 124 yX7_has, .static yX7_has, .code yX7_has cX7_has 2 (some .boolean), .methodLink RX7 137 yX7_worksAt, .instanceMethod yX7_worksAt, .selects RX7 yX7_worksAt yX7_worksAt, .code yX7_worksAt cX7_worksAt 4 (some .int), .fieldLink RX7 19 "RoomBornModel" "low" "[I", .fieldLink RX7 22 "RoomBornModel" "high" "[I"] ++ wsX70)
def wsX7_work_r1 : List Cond := [Cond.fieldLink RX7 59 "RoomBornModel" "thrown" "I", Cond.fieldLink RX7 19 "RoomBornModel" "low" "[I", Cond.fieldLink RX7 22 "RoomBornModel" "high" "[I", Cond.methodLink RX7 155 yX7_isWork, Cond.instanceMethod yX7_isWork, Cond.selects RX7 yX7_isWork yX7_isWork, Cond.initialized RX7, Cond.code yX7_isWork cX7_isWork 2 (some .boolean), Cond.fieldLink RX7 13 "RoomBornModel" "many" "[I", Cond.methodLink RX7 63 yX7_in, Cond.static yX7_in, Cond.code yX7_in cX7_in 3 (some .boolean), Cond.methodLink RX7 158 yX7_whoCan, Cond.instanceMethod yX7_whoCan, Cond.selects RX7 yX7_whoCan yX7_whoCan, Cond.code yX7_whoCan cX7_whoCan 4 (some .int), Cond.methodLink RX7 140 yX7_worksOf, Cond.instanceMethod yX7_worksOf, Cond.selects RX7 yX7_worksOf yX7_worksOf, Cond.code yX7_worksOf cX7_worksOf 2 (some .int), Cond.fieldLink RX7 25 "RoomBornModel" "s" "[I", Cond.methodLink RX7 124 yX7_has, Cond.static yX7_has, Cond.code yX7_has cX7_has 2 (some .boolean)]
def wsX7_work_r2 : List Cond := [Cond.methodLink RX7 137 yX7_worksAt, Cond.instanceMethod yX7_worksAt, Cond.selects RX7 yX7_worksAt yX7_worksAt, Cond.code yX7_worksAt cX7_worksAt 4 (some .int), Cond.methodLink RX7 161 yX7_lastsOf, Cond.instanceMethod yX7_lastsOf, Cond.selects RX7 yX7_lastsOf yX7_lastsOf, Cond.code yX7_lastsOf cX7_lastsOf 3 (some .int), Cond.methodLink RX7 143 yX7_isDoneIn, Cond.instanceMethod yX7_isDoneIn, Cond.selects RX7 yX7_isDoneIn yX7_isDoneIn, Cond.code yX7_isDoneIn cX7_isDoneIn 6 (some .boolean)]
def wsX7_work : List Cond := .code yX7_work cX7_work 3 (some .int) :: ((wsX7_work_r1 ++ wsX7_work_r2) ++ wsX70)
def wsX7_asNow : List Cond := .code yX7_asNow cX7_asNow 2 none :: ([.fieldLink RX7 44 "RoomBornModel" "can" "[I", .fieldLink RX7 13 "RoomBornModel" "many" "[I", .methodLink RX7 140 yX7_worksOf, .instanceMethod yX7_worksOf, .selects RX7 yX7_worksOf yX7_worksOf, .initialized RX7, .code yX7_worksOf cX7_worksOf 2 (some .int), .fieldLink RX7 25 "RoomBornModel" "s" "[I", .methodLink RX7 124 yX7_has, .static yX7_has, .code yX7_has cX7_has 2 (some .boolean), .methodLink RX7 137 yX7_worksAt, .instanceMethod yX7_worksAt, .selects RX7 yX7_worksAt yX7_worksAt, .code yX7_worksAt cX7_worksAt 4 (some .int), .fieldLink RX7 19 "RoomBornModel" "low" "[I", .fieldLink RX7 22 "RoomBornModel" "high" "[I", .methodLink RX7 63 yX7_in, .static yX7_in, .code yX7_in cX7_in 3 (some .boolean)] ++ wsX70)
def wsX7_sixes : List Cond := .code yX7_sixes cX7_sixes 4 (some .int) :: ([])
def wsX7_doing : List Cond := .code yX7_doing cX7_doing 7 (some .int) :: ([.fieldLink RX7 13 "RoomBornModel" "many" "[I", .fieldLink RX7 47 "RoomBornModel" "does" "[I", .fieldLink RX7 44 "RoomBornModel" "can" "[I", .methodLink RX7 124 yX7_has, .static yX7_has, .initialized RX7, .code yX7_has cX7_has 2 (some .boolean)] ++ wsX70)
def wsX7_filled : List Cond := .code yX7_filled cX7_filled 6 (some .int) :: ([.fieldLink RX7 13 "RoomBornModel" "many" "[I", .fieldLink RX7 50 "RoomBornModel" "best" "[I", .fieldLink RX7 47 "RoomBornModel" "does" "[I", .methodLink RX7 164 yX7_sixes, .instanceMethod yX7_sixes, .selects RX7 yX7_sixes yX7_sixes, .initialized RX7, .code yX7_sixes cX7_sixes 4 (some .int), .methodLink RX7 167 yX7_doing, .instanceMethod yX7_doing, .selects RX7 yX7_doing yX7_doing, .code yX7_doing cX7_doing 7 (some .int), .fieldLink RX7 44 "RoomBornModel" "can" "[I", .methodLink RX7 124 yX7_has, .static yX7_has, .code yX7_has cX7_has 2 (some .boolean)] ++ wsX70)
def wsX7_now_r1 : List Cond := [Cond.fieldLink RX7 59 "RoomBornModel" "thrown" "I", Cond.fieldLink RX7 25 "RoomBornModel" "s" "[I", Cond.fieldLink RX7 121 "RoomBornModel" "undoMany" "I", Cond.methodLink RX7 63 yX7_in, Cond.static yX7_in, Cond.initialized RX7, Cond.code yX7_in cX7_in 3 (some .boolean), Cond.methodLink RX7 170 yX7_asNow, Cond.instanceMethod yX7_asNow, Cond.selects RX7 yX7_asNow yX7_asNow, Cond.code yX7_asNow cX7_asNow 2 none, Cond.fieldLink RX7 44 "RoomBornModel" "can" "[I", Cond.fieldLink RX7 13 "RoomBornModel" "many" "[I", Cond.methodLink RX7 140 yX7_worksOf, Cond.instanceMethod yX7_worksOf, Cond.selects RX7 yX7_worksOf yX7_worksOf, Cond.code yX7_worksOf cX7_worksOf 2 (some .int), Cond.methodLink RX7 124 yX7_has, Cond.static yX7_has, Cond.code yX7_has cX7_has 2 (some .boolean), Cond.methodLink RX7 137 yX7_worksAt, Cond.instanceMethod yX7_worksAt, Cond.selects RX7 yX7_worksAt yX7_worksAt, Cond.code yX7_worksAt cX7_worksAt 4 (some .int)]
def wsX7_now_r2 : List Cond := [Cond.fieldLink RX7 19 "RoomBornModel" "low" "[I", Cond.fieldLink RX7 22 "RoomBornModel" "high" "[I", Cond.methodLink RX7 173 yX7_filled, Cond.instanceMethod yX7_filled, Cond.selects RX7 yX7_filled yX7_filled, Cond.code yX7_filled cX7_filled 6 (some .int), Cond.fieldLink RX7 50 "RoomBornModel" "best" "[I", Cond.fieldLink RX7 47 "RoomBornModel" "does" "[I", Cond.methodLink RX7 164 yX7_sixes, Cond.instanceMethod yX7_sixes, Cond.selects RX7 yX7_sixes yX7_sixes, Cond.code yX7_sixes cX7_sixes 4 (some .int), Cond.methodLink RX7 167 yX7_doing, Cond.instanceMethod yX7_doing, Cond.selects RX7 yX7_doing yX7_doing, Cond.code yX7_doing cX7_doing 7 (some .int)]
def wsX7_now : List Cond := .code yX7_now cX7_now 2 (some .int) :: ((wsX7_now_r1 ++ wsX7_now_r2) ++ wsX70)
def wsX7_notes : List Cond := .code yX7_notes cX7_notes 2 none :: ([.fieldLink RX7 121 "RoomBornModel" "undoMany" "I", .fieldLink RX7 35 "RoomBornModel" "undos" "[I", .fieldLink RX7 25 "RoomBornModel" "s" "[I"] ++ wsX70)
def wsX7_bears_r1 : List Cond := [Cond.fieldLink RX7 59 "RoomBornModel" "thrown" "I", Cond.fieldLink RX7 25 "RoomBornModel" "s" "[I", Cond.fieldLink RX7 13 "RoomBornModel" "many" "[I", Cond.methodLink RX7 152 yX7_isChild, Cond.instanceMethod yX7_isChild, Cond.selects RX7 yX7_isChild yX7_isChild, Cond.initialized RX7, Cond.code yX7_isChild cX7_isChild 2 (some .boolean), Cond.methodLink RX7 63 yX7_in, Cond.static yX7_in, Cond.code yX7_in cX7_in 3 (some .boolean), Cond.methodLink RX7 146 yX7_isRoom, Cond.instanceMethod yX7_isRoom, Cond.selects RX7 yX7_isRoom yX7_isRoom, Cond.code yX7_isRoom cX7_isRoom 2 (some .boolean), Cond.methodLink RX7 124 yX7_has, Cond.static yX7_has, Cond.code yX7_has cX7_has 2 (some .boolean), Cond.methodLink RX7 177 yX7_notes, Cond.instanceMethod yX7_notes, Cond.selects RX7 yX7_notes yX7_notes, Cond.code yX7_notes cX7_notes 2 none, Cond.fieldLink RX7 121 "RoomBornModel" "undoMany" "I", Cond.fieldLink RX7 35 "RoomBornModel" "undos" "[I"]
def wsX7_bears_r2 : List Cond := [Cond.methodLink RX7 149 yX7_ageOf, Cond.instanceMethod yX7_ageOf, Cond.selects RX7 yX7_ageOf yX7_ageOf, Cond.code yX7_ageOf cX7_ageOf 2 (some .int), Cond.methodLink RX7 131 yX7_joinedWith, Cond.instanceMethod yX7_joinedWith, Cond.selects RX7 yX7_joinedWith yX7_joinedWith, Cond.code yX7_joinedWith cX7_joinedWith 4 (some .int), Cond.methodLink RX7 134 yX7_ageBy, Cond.instanceMethod yX7_ageBy, Cond.selects RX7 yX7_ageBy yX7_ageBy, Cond.code yX7_ageBy cX7_ageBy 4 (some .int), Cond.methodLink RX7 128 yX7_ones, Cond.static yX7_ones, Cond.code yX7_ones cX7_ones 3 (some .int)]
def wsX7_bears : List Cond := .code yX7_bears cX7_bears 4 (some .int) :: ((wsX7_bears_r1 ++ wsX7_bears_r2) ++ wsX70)
def wsX7_year : List Cond := .code yX7_year cX7_year 4 (some .int) :: ([.fieldLink RX7 59 "RoomBornModel" "thrown" "I", .fieldLink RX7 25 "RoomBornModel" "s" "[I", .fieldLink RX7 13 "RoomBornModel" "many" "[I", .methodLink RX7 177 yX7_notes, .instanceMethod yX7_notes, .selects RX7 yX7_notes yX7_notes, .initialized RX7, .code yX7_notes cX7_notes 2 none, .fieldLink RX7 121 "RoomBornModel" "undoMany" "I", .fieldLink RX7 35 "RoomBornModel" "undos" "[I", .methodLink RX7 124 yX7_has, .static yX7_has, .code yX7_has cX7_has 2 (some .boolean)] ++ wsX70)
def wsX7_joins_r1 : List Cond := [Cond.fieldLink RX7 59 "RoomBornModel" "thrown" "I", Cond.fieldLink RX7 25 "RoomBornModel" "s" "[I", Cond.methodLink RX7 146 yX7_isRoom, Cond.instanceMethod yX7_isRoom, Cond.selects RX7 yX7_isRoom yX7_isRoom, Cond.initialized RX7, Cond.code yX7_isRoom cX7_isRoom 2 (some .boolean), Cond.fieldLink RX7 13 "RoomBornModel" "many" "[I", Cond.methodLink RX7 63 yX7_in, Cond.static yX7_in, Cond.code yX7_in cX7_in 3 (some .boolean), Cond.methodLink RX7 177 yX7_notes, Cond.instanceMethod yX7_notes, Cond.selects RX7 yX7_notes yX7_notes, Cond.code yX7_notes cX7_notes 2 none, Cond.fieldLink RX7 121 "RoomBornModel" "undoMany" "I", Cond.fieldLink RX7 35 "RoomBornModel" "undos" "[I", Cond.methodLink RX7 149 yX7_ageOf, Cond.instanceMethod yX7_ageOf, Cond.selects RX7 yX7_ageOf yX7_ageOf, Cond.code yX7_ageOf cX7_ageOf 2 (some .int), Cond.methodLink RX7 131 yX7_joinedWith, Cond.instanceMethod yX7_joinedWith, Cond.selects RX7 yX7_joinedWith yX7_joinedWith]
def wsX7_joins_r2 : List Cond := [Cond.code yX7_joinedWith cX7_joinedWith 4 (some .int), Cond.methodLink RX7 134 yX7_ageBy, Cond.instanceMethod yX7_ageBy, Cond.selects RX7 yX7_ageBy yX7_ageBy, Cond.code yX7_ageBy cX7_ageBy 4 (some .int), Cond.methodLink RX7 124 yX7_has, Cond.static yX7_has, Cond.code yX7_has cX7_has 2 (some .boolean), Cond.methodLink RX7 128 yX7_ones, Cond.static yX7_ones, Cond.code yX7_ones cX7_ones 3 (some .int)]
def wsX7_joins : List Cond := .code yX7_joins cX7_joins 8 (some .int) :: ((wsX7_joins_r1 ++ wsX7_joins_r2) ++ wsX70)
def wsX7_builds_r1 : List Cond := [Cond.fieldLink RX7 59 "RoomBornModel" "thrown" "I", Cond.fieldLink RX7 25 "RoomBornModel" "s" "[I", Cond.methodLink RX7 146 yX7_isRoom, Cond.instanceMethod yX7_isRoom, Cond.selects RX7 yX7_isRoom yX7_isRoom, Cond.initialized RX7, Cond.code yX7_isRoom cX7_isRoom 2 (some .boolean), Cond.fieldLink RX7 13 "RoomBornModel" "many" "[I", Cond.methodLink RX7 63 yX7_in, Cond.static yX7_in, Cond.code yX7_in cX7_in 3 (some .boolean), Cond.methodLink RX7 131 yX7_joinedWith, Cond.instanceMethod yX7_joinedWith, Cond.selects RX7 yX7_joinedWith yX7_joinedWith, Cond.code yX7_joinedWith cX7_joinedWith 4 (some .int), Cond.methodLink RX7 128 yX7_ones, Cond.static yX7_ones, Cond.code yX7_ones cX7_ones 3 (some .int), Cond.methodLink RX7 177 yX7_notes, Cond.instanceMethod yX7_notes, Cond.selects RX7 yX7_notes yX7_notes, Cond.code yX7_notes cX7_notes 2 none, Cond.fieldLink RX7 121 "RoomBornModel" "undoMany" "I", Cond.fieldLink RX7 35 "RoomBornModel" "undos" "[I"]
def wsX7_builds_r2 : List Cond := [Cond.methodLink RX7 124 yX7_has, Cond.static yX7_has, Cond.code yX7_has cX7_has 2 (some .boolean)]
def wsX7_builds : List Cond := .code yX7_builds cX7_builds 7 (some .int) :: ((wsX7_builds_r1 ++ wsX7_builds_r2) ++ wsX70)
def wsX7_undo : List Cond := .code yX7_undo cX7_undo 2 (some .int) :: ([.fieldLink RX7 59 "RoomBornModel" "thrown" "I", .fieldLink RX7 121 "RoomBornModel" "undoMany" "I", .fieldLink RX7 25 "RoomBornModel" "s" "[I", .fieldLink RX7 35 "RoomBornModel" "undos" "[I"] ++ wsX70)
def wsX7_fills_r1 : List Cond := [Cond.fieldLink RX7 59 "RoomBornModel" "thrown" "I", Cond.fieldLink RX7 50 "RoomBornModel" "best" "[I", Cond.methodLink RX7 152 yX7_isChild, Cond.instanceMethod yX7_isChild, Cond.selects RX7 yX7_isChild yX7_isChild, Cond.initialized RX7, Cond.code yX7_isChild cX7_isChild 2 (some .boolean), Cond.fieldLink RX7 13 "RoomBornModel" "many" "[I", Cond.methodLink RX7 63 yX7_in, Cond.static yX7_in, Cond.code yX7_in cX7_in 3 (some .boolean), Cond.methodLink RX7 170 yX7_asNow, Cond.instanceMethod yX7_asNow, Cond.selects RX7 yX7_asNow yX7_asNow, Cond.code yX7_asNow cX7_asNow 2 none, Cond.fieldLink RX7 44 "RoomBornModel" "can" "[I", Cond.methodLink RX7 140 yX7_worksOf, Cond.instanceMethod yX7_worksOf, Cond.selects RX7 yX7_worksOf yX7_worksOf, Cond.code yX7_worksOf cX7_worksOf 2 (some .int), Cond.fieldLink RX7 25 "RoomBornModel" "s" "[I", Cond.methodLink RX7 124 yX7_has, Cond.static yX7_has, Cond.code yX7_has cX7_has 2 (some .boolean)]
def wsX7_fills_r2 : List Cond := [Cond.methodLink RX7 137 yX7_worksAt, Cond.instanceMethod yX7_worksAt, Cond.selects RX7 yX7_worksAt yX7_worksAt, Cond.code yX7_worksAt cX7_worksAt 4 (some .int), Cond.fieldLink RX7 19 "RoomBornModel" "low" "[I", Cond.fieldLink RX7 22 "RoomBornModel" "high" "[I", Cond.methodLink RX7 173 yX7_filled, Cond.instanceMethod yX7_filled, Cond.selects RX7 yX7_filled yX7_filled, Cond.code yX7_filled cX7_filled 6 (some .int), Cond.fieldLink RX7 47 "RoomBornModel" "does" "[I", Cond.methodLink RX7 164 yX7_sixes, Cond.instanceMethod yX7_sixes, Cond.selects RX7 yX7_sixes yX7_sixes, Cond.code yX7_sixes cX7_sixes 4 (some .int), Cond.methodLink RX7 167 yX7_doing, Cond.instanceMethod yX7_doing, Cond.selects RX7 yX7_doing yX7_doing, Cond.code yX7_doing cX7_doing 7 (some .int)]
def wsX7_fills : List Cond := .code yX7_fills cX7_fills 2 (some .int) :: ((wsX7_fills_r1 ++ wsX7_fills_r2) ++ wsX70)
def wsX7_carry_r1 : List Cond := [Cond.fieldLink RX7 59 "RoomBornModel" "thrown" "I", Cond.fieldLink RX7 25 "RoomBornModel" "s" "[I", Cond.fieldLink RX7 13 "RoomBornModel" "many" "[I", Cond.fieldLink RX7 44 "RoomBornModel" "can" "[I", Cond.methodLink RX7 152 yX7_isChild, Cond.instanceMethod yX7_isChild, Cond.selects RX7 yX7_isChild yX7_isChild, Cond.initialized RX7, Cond.code yX7_isChild cX7_isChild 2 (some .boolean), Cond.methodLink RX7 63 yX7_in, Cond.static yX7_in, Cond.code yX7_in cX7_in 3 (some .boolean), Cond.methodLink RX7 124 yX7_has, Cond.static yX7_has, Cond.code yX7_has cX7_has 2 (some .boolean), Cond.methodLink RX7 170 yX7_asNow, Cond.instanceMethod yX7_asNow, Cond.selects RX7 yX7_asNow yX7_asNow, Cond.code yX7_asNow cX7_asNow 2 none, Cond.methodLink RX7 140 yX7_worksOf, Cond.instanceMethod yX7_worksOf, Cond.selects RX7 yX7_worksOf yX7_worksOf, Cond.code yX7_worksOf cX7_worksOf 2 (some .int), Cond.methodLink RX7 137 yX7_worksAt]
def wsX7_carry_r2 : List Cond := [Cond.instanceMethod yX7_worksAt, Cond.selects RX7 yX7_worksAt yX7_worksAt, Cond.code yX7_worksAt cX7_worksAt 4 (some .int), Cond.fieldLink RX7 19 "RoomBornModel" "low" "[I", Cond.fieldLink RX7 22 "RoomBornModel" "high" "[I", Cond.methodLink RX7 149 yX7_ageOf, Cond.instanceMethod yX7_ageOf, Cond.selects RX7 yX7_ageOf yX7_ageOf, Cond.code yX7_ageOf cX7_ageOf 2 (some .int), Cond.methodLink RX7 131 yX7_joinedWith, Cond.instanceMethod yX7_joinedWith, Cond.selects RX7 yX7_joinedWith yX7_joinedWith, Cond.code yX7_joinedWith cX7_joinedWith 4 (some .int), Cond.methodLink RX7 134 yX7_ageBy, Cond.instanceMethod yX7_ageBy, Cond.selects RX7 yX7_ageBy yX7_ageBy, Cond.code yX7_ageBy cX7_ageBy 4 (some .int), Cond.methodLink RX7 128 yX7_ones, Cond.static yX7_ones, Cond.code yX7_ones cX7_ones 3 (some .int), Cond.methodLink RX7 173 yX7_filled, Cond.instanceMethod yX7_filled, Cond.selects RX7 yX7_filled yX7_filled, Cond.code yX7_filled cX7_filled 6 (some .int)]
def wsX7_carry_r3 : List Cond := [Cond.fieldLink RX7 50 "RoomBornModel" "best" "[I", Cond.fieldLink RX7 47 "RoomBornModel" "does" "[I", Cond.methodLink RX7 164 yX7_sixes, Cond.instanceMethod yX7_sixes, Cond.selects RX7 yX7_sixes yX7_sixes, Cond.code yX7_sixes cX7_sixes 4 (some .int), Cond.methodLink RX7 167 yX7_doing, Cond.instanceMethod yX7_doing, Cond.selects RX7 yX7_doing yX7_doing, Cond.code yX7_doing cX7_doing 7 (some .int)]
def wsX7_carry : List Cond := .code yX7_carry cX7_carry 8 (some .int) :: ((wsX7_carry_r1 ++ (wsX7_carry_r2 ++ wsX7_carry_r3)) ++ wsX70)
def wsX7_join : List Cond := .code yX7_join cX7_join 4 (some .int) :: ([.fieldLink RX7 59 "RoomBornModel" "thrown" "I", .fieldLink RX7 13 "RoomBornModel" "many" "[I", .methodLink RX7 63 yX7_in, .static yX7_in, .initialized RX7, .code yX7_in cX7_in 3 (some .boolean), .methodLink RX7 134 yX7_ageBy, .instanceMethod yX7_ageBy, .selects RX7 yX7_ageBy yX7_ageBy, .code yX7_ageBy cX7_ageBy 4 (some .int), .fieldLink RX7 25 "RoomBornModel" "s" "[I", .methodLink RX7 124 yX7_has, .static yX7_has, .code yX7_has cX7_has 2 (some .boolean), .methodLink RX7 128 yX7_ones, .static yX7_ones, .code yX7_ones cX7_ones 3 (some .int)] ++ wsX70)
def wsX7_elder : List Cond := .code yX7_elder cX7_elder 6 (some .int) :: ([.fieldLink RX7 59 "RoomBornModel" "thrown" "I", .fieldLink RX7 13 "RoomBornModel" "many" "[I", .fieldLink RX7 25 "RoomBornModel" "s" "[I", .methodLink RX7 63 yX7_in, .static yX7_in, .initialized RX7, .code yX7_in cX7_in 3 (some .boolean), .methodLink RX7 124 yX7_has, .static yX7_has, .code yX7_has cX7_has 2 (some .boolean)] ++ wsX70)
def wsX7_power : List Cond := .code yX7_power cX7_power 4 (some .int) :: ([])
def wsX7_gcd : List Cond := .code yX7_gcd cX7_gcd 5 (some .int) :: ([])
def wsX7_odds_r1 : List Cond := [Cond.fieldLink RX7 59 "RoomBornModel" "thrown" "I", Cond.fieldLink RX7 13 "RoomBornModel" "many" "[I", Cond.fieldLink RX7 25 "RoomBornModel" "s" "[I", Cond.fieldLink RX7 19 "RoomBornModel" "low" "[I", Cond.fieldLink RX7 22 "RoomBornModel" "high" "[I", Cond.methodLink RX7 155 yX7_isWork, Cond.instanceMethod yX7_isWork, Cond.selects RX7 yX7_isWork yX7_isWork, Cond.initialized RX7, Cond.code yX7_isWork cX7_isWork 2 (some .boolean), Cond.methodLink RX7 63 yX7_in, Cond.static yX7_in, Cond.code yX7_in cX7_in 3 (some .boolean), Cond.methodLink RX7 128 yX7_ones, Cond.static yX7_ones, Cond.code yX7_ones cX7_ones 3 (some .int), Cond.methodLink RX7 149 yX7_ageOf, Cond.instanceMethod yX7_ageOf, Cond.selects RX7 yX7_ageOf yX7_ageOf, Cond.code yX7_ageOf cX7_ageOf 2 (some .int), Cond.methodLink RX7 131 yX7_joinedWith, Cond.instanceMethod yX7_joinedWith, Cond.selects RX7 yX7_joinedWith yX7_joinedWith, Cond.code yX7_joinedWith cX7_joinedWith 4 (some .int)]
def wsX7_odds_r2 : List Cond := [Cond.methodLink RX7 134 yX7_ageBy, Cond.instanceMethod yX7_ageBy, Cond.selects RX7 yX7_ageBy yX7_ageBy, Cond.code yX7_ageBy cX7_ageBy 4 (some .int), Cond.methodLink RX7 124 yX7_has, Cond.static yX7_has, Cond.code yX7_has cX7_has 2 (some .boolean), Cond.methodLink RX7 180 yX7_power, Cond.static yX7_power, Cond.code yX7_power cX7_power 4 (some .int), Cond.methodLink RX7 183 yX7_gcd, Cond.static yX7_gcd, Cond.code yX7_gcd cX7_gcd 5 (some .int)]
def wsX7_odds : List Cond := .code yX7_odds cX7_odds 8 (some .int) :: ((wsX7_odds_r1 ++ wsX7_odds_r2) ++ wsX70)
def wsX7_sees : List Cond := .code yX7_sees cX7_sees 3 (some .int) :: ([.fieldLink RX7 59 "RoomBornModel" "thrown" "I", .fieldLink RX7 118 "RoomBornModel" "seenMany" "I", .fieldLink RX7 38 "RoomBornModel" "seenBy" "[I", .fieldLink RX7 41 "RoomBornModel" "seen" "[I", .methodLink RX7 155 yX7_isWork, .instanceMethod yX7_isWork, .selects RX7 yX7_isWork yX7_isWork, .initialized RX7, .code yX7_isWork cX7_isWork 2 (some .boolean), .fieldLink RX7 13 "RoomBornModel" "many" "[I", .methodLink RX7 63 yX7_in, .static yX7_in, .code yX7_in cX7_in 3 (some .boolean)] ++ wsX70)
def wsX7_forget : List Cond := .code yX7_forget cX7_forget 2 (some .int) :: ([.fieldLink RX7 59 "RoomBornModel" "thrown" "I", .fieldLink RX7 118 "RoomBornModel" "seenMany" "I"] ++ wsX70)
def wsX7_canBe : List Cond := .code yX7_canBe cX7_canBe 4 (some .boolean) :: ([.fieldLink RX7 118 "RoomBornModel" "seenMany" "I", .fieldLink RX7 38 "RoomBornModel" "seenBy" "[I", .fieldLink RX7 41 "RoomBornModel" "seen" "[I", .methodLink RX7 137 yX7_worksAt, .instanceMethod yX7_worksAt, .selects RX7 yX7_worksAt yX7_worksAt, .initialized RX7, .code yX7_worksAt cX7_worksAt 4 (some .int), .fieldLink RX7 13 "RoomBornModel" "many" "[I", .fieldLink RX7 19 "RoomBornModel" "low" "[I", .fieldLink RX7 22 "RoomBornModel" "high" "[I", .methodLink RX7 63 yX7_in, .static yX7_in, .code yX7_in cX7_in 3 (some .boolean)] ++ wsX70)
def wsX7_ages : List Cond := .code yX7_ages cX7_ages 6 (some .int) :: ([.fieldLink RX7 59 "RoomBornModel" "thrown" "I", .methodLink RX7 63 yX7_in, .static yX7_in, .initialized RX7, .code yX7_in cX7_in 3 (some .boolean), .methodLink RX7 186 yX7_canBe, .instanceMethod yX7_canBe, .selects RX7 yX7_canBe yX7_canBe, .code yX7_canBe cX7_canBe 4 (some .boolean), .fieldLink RX7 118 "RoomBornModel" "seenMany" "I", .fieldLink RX7 38 "RoomBornModel" "seenBy" "[I", .fieldLink RX7 41 "RoomBornModel" "seen" "[I", .methodLink RX7 137 yX7_worksAt, .instanceMethod yX7_worksAt, .selects RX7 yX7_worksAt yX7_worksAt, .code yX7_worksAt cX7_worksAt 4 (some .int), .fieldLink RX7 13 "RoomBornModel" "many" "[I", .fieldLink RX7 19 "RoomBornModel" "low" "[I", .fieldLink RX7 22 "RoomBornModel" "high" "[I"] ++ wsX70)
def wsX7_next : List Cond := .code yX7_next cX7_next 7 (some .int) :: ([.fieldLink RX7 59 "RoomBornModel" "thrown" "I", .fieldLink RX7 13 "RoomBornModel" "many" "[I", .methodLink RX7 186 yX7_canBe, .instanceMethod yX7_canBe, .selects RX7 yX7_canBe yX7_canBe, .initialized RX7, .code yX7_canBe cX7_canBe 4 (some .boolean), .fieldLink RX7 118 "RoomBornModel" "seenMany" "I", .fieldLink RX7 38 "RoomBornModel" "seenBy" "[I", .fieldLink RX7 41 "RoomBornModel" "seen" "[I", .methodLink RX7 137 yX7_worksAt, .instanceMethod yX7_worksAt, .selects RX7 yX7_worksAt yX7_worksAt, .code yX7_worksAt cX7_worksAt 4 (some .int), .fieldLink RX7 19 "RoomBornModel" "low" "[I", .fieldLink RX7 22 "RoomBornModel" "high" "[I", .methodLink RX7 63 yX7_in, .static yX7_in, .code yX7_in cX7_in 3 (some .boolean), .methodLink RX7 124 yX7_has, .static yX7_has, .code yX7_has cX7_has 2 (some .boolean)] ++ wsX70)
def wsX7_rate_r1 : List Cond := [Cond.fieldLink RX7 59 "RoomBornModel" "thrown" "I", Cond.constant RX7 189 (-1000000), Cond.fieldLink RX7 25 "RoomBornModel" "s" "[I", Cond.fieldLink RX7 190 "RoomBornModel" "trace" "J", Cond.constantLong RX7 194 (11), Cond.constantLong RX7 196 (101), Cond.constantLong RX7 198 (1011), Cond.constantLong RX7 200 (10101), Cond.constantLong RX7 202 (100001), Cond.methodLink RX7 63 yX7_in, Cond.static yX7_in, Cond.initialized RX7, Cond.code yX7_in cX7_in 3 (some .boolean), Cond.methodLink RX7 152 yX7_isChild, Cond.instanceMethod yX7_isChild, Cond.selects RX7 yX7_isChild yX7_isChild, Cond.code yX7_isChild cX7_isChild 2 (some .boolean), Cond.fieldLink RX7 13 "RoomBornModel" "many" "[I", Cond.methodLink RX7 124 yX7_has, Cond.static yX7_has, Cond.code yX7_has cX7_has 2 (some .boolean), Cond.methodLink RX7 140 yX7_worksOf, Cond.instanceMethod yX7_worksOf, Cond.selects RX7 yX7_worksOf yX7_worksOf]
def wsX7_rate_r2 : List Cond := [Cond.code yX7_worksOf cX7_worksOf 2 (some .int), Cond.methodLink RX7 137 yX7_worksAt, Cond.instanceMethod yX7_worksAt, Cond.selects RX7 yX7_worksAt yX7_worksAt, Cond.code yX7_worksAt cX7_worksAt 4 (some .int), Cond.fieldLink RX7 19 "RoomBornModel" "low" "[I", Cond.fieldLink RX7 22 "RoomBornModel" "high" "[I", Cond.methodLink RX7 128 yX7_ones, Cond.static yX7_ones, Cond.code yX7_ones cX7_ones 3 (some .int)]
def wsX7_rate : List Cond := .code yX7_rate cX7_rate 6 (some .int) :: ((wsX7_rate_r1 ++ wsX7_rate_r2) ++ wsX70)
def wsX7_keep : List Cond := .code yX7_keep cX7_keep 3 (some .int) :: ([.fieldLink RX7 59 "RoomBornModel" "thrown" "I", .fieldLink RX7 28 "RoomBornModel" "kept" "[I", .fieldLink RX7 25 "RoomBornModel" "s" "[I", .fieldLink RX7 31 "RoomBornModel" "isKept" "[Z", .methodLink RX7 63 yX7_in, .static yX7_in, .initialized RX7, .code yX7_in cX7_in 3 (some .boolean)] ++ wsX70)
def wsX7_back : List Cond := .code yX7_back cX7_back 3 (some .int) :: ([.fieldLink RX7 59 "RoomBornModel" "thrown" "I", .fieldLink RX7 31 "RoomBornModel" "isKept" "[Z", .fieldLink RX7 25 "RoomBornModel" "s" "[I", .fieldLink RX7 28 "RoomBornModel" "kept" "[I", .fieldLink RX7 121 "RoomBornModel" "undoMany" "I", .methodLink RX7 63 yX7_in, .static yX7_in, .initialized RX7, .code yX7_in cX7_in 3 (some .boolean)] ++ wsX70)
def wsX7_count : List Cond := .code yX7_count cX7_count 2 (some .int) :: ([.fieldLink RX7 59 "RoomBornModel" "thrown" "I", .fieldLink RX7 13 "RoomBornModel" "many" "[I", .fieldLink RX7 118 "RoomBornModel" "seenMany" "I", .fieldLink RX7 67 "RoomBornModel" "typed" "I", .methodLink RX7 63 yX7_in, .static yX7_in, .initialized RX7, .code yX7_in cX7_in 3 (some .boolean)] ++ wsX70)
def wsX7_trace : List Cond := .code yX7_trace cX7_trace 1 (some .long) :: ([.fieldLink RX7 59 "RoomBornModel" "thrown" "I", .fieldLink RX7 190 "RoomBornModel" "trace" "J"] ++ wsX70)
def wsJ9_max_7cf53 : List Cond := .code yJ9_max_7cf53 cJ9_max_7cf53 2 (some .int) :: ([])
def wsJ9_min_7cf53 : List Cond := .code yJ9_min_7cf53 cJ9_min_7cf53 2 (some .int) :: ([])
def wsL_law_r1 : List Cond := [Cond.classLink RL 7 RX6, Cond.instantiable RX6 10, Cond.initialized RX6, Cond.classLink RL 10 RX7, Cond.instantiable RX7 25, Cond.initialized RX7, Cond.methodLink RL 9 yX6_init, Cond.instanceMethod yX6_init, Cond.code yX6_init cX6_init 2 none, Cond.methodLink RX6 1 objectInit, Cond.instanceMethod objectInit, Cond.code objectInit ⟨#[0xb1]⟩ 1 none, Cond.classLink RX6 7 RX4, Cond.instantiable RX4 8, Cond.initialized RX4, Cond.fieldLink RX6 10 "RoomBorn" "text" "LRoomBorn$Text;", Cond.classLink RX6 16 RX1, Cond.instantiable RX1 6, Cond.initialized RX1, Cond.fieldLink RX6 19 "RoomBorn" "today" "LRoomBorn$Moment;", Cond.classLink RX6 23 RX2, Cond.instantiable RX2 3, Cond.initialized RX2, Cond.fieldLink RX6 26 "RoomBorn" "past" "LRoomBorn$Past;"]
def wsL_law_r2 : List Cond := [Cond.fieldLink RX6 30 "RoomBorn" "images" "[LRoomBorn$Moment;", Cond.arrayClass .boolean, Cond.fieldLink RX6 34 "RoomBorn" "kept" "[Z", Cond.classLink RX6 38 RX0, Cond.instantiable RX0 4, Cond.initialized RX0, Cond.fieldLink RX6 41 "RoomBorn" "filling" "LRoomBorn$Filling;", Cond.classLink RX6 45 RX3, Cond.instantiable RX3 3, Cond.initialized RX3, Cond.fieldLink RX6 48 "RoomBorn" "seen" "LRoomBorn$Seen;", Cond.classLink RX6 52 RX5, Cond.instantiable RX5 8, Cond.initialized RX5, Cond.fieldLink RX6 55 "RoomBorn" "told" "LRoomBorn$Told;", Cond.fieldLink RX6 59 "RoomBorn" "draft" "LRoomBorn$Told;", Cond.fieldLink RX6 62 "RoomBorn" "traced" "J", Cond.instanceMethod yX4_init, Cond.code yX4_init cX4_init 1 none, Cond.methodLink RX4 3 objectInit, Cond.arrayClass .int, Cond.fieldLink RX4 9 "RoomBorn$Text" "letters" "[I", Cond.fieldLink RX4 15 "RoomBorn$Text" "length" "I", Cond.instanceMethod yX1_init]
def wsL_law_r3 : List Cond := [Cond.code yX1_init cX1_init 1 none, Cond.methodLink RX1 3 objectInit, Cond.fieldLink RX1 9 "RoomBorn$Moment" "old" "[I", Cond.fieldLink RX1 15 "RoomBorn$Moment" "joined" "[I", Cond.fieldLink RX1 18 "RoomBorn$Moment" "age" "[I", Cond.instanceMethod yX2_init, Cond.code yX2_init cX2_init 2 none, Cond.methodLink RX2 3 objectInit, Cond.classLink RX2 9 RX1, Cond.fieldLink RX2 11 "RoomBorn$Past" "moments" "[LRoomBorn$Moment;", Cond.fieldLink RX2 17 "RoomBorn$Past" "free" "I", Cond.fieldLink RX2 21 "RoomBorn$Past" "known" "I", Cond.instanceMethod yX0_init, Cond.code yX0_init cX0_init 1 none, Cond.methodLink RX0 3 objectInit, Cond.fieldLink RX0 9 "RoomBorn$Filling" "can" "[I", Cond.classLink RX0 15 "[[I", Cond.fieldLink RX0 17 "RoomBorn$Filling" "most" "[[I", Cond.fieldLink RX0 20 "RoomBorn$Filling" "children" "I", Cond.fieldLink RX0 24 "RoomBorn$Filling" "works" "I", Cond.instanceMethod yX3_init, Cond.code yX3_init cX3_init 1 none, Cond.methodLink RX3 3 objectInit, Cond.fieldLink RX3 9 "RoomBorn$Seen" "works" "[I"]
def wsL_law_r4 : List Cond := [Cond.fieldLink RX3 15 "RoomBorn$Seen" "could" "[Z", Cond.fieldLink RX3 19 "RoomBorn$Seen" "known" "I", Cond.instanceMethod yX5_init, Cond.code yX5_init cX5_init 1 none, Cond.methodLink RX5 3 objectInit, Cond.fieldLink RX5 9 "RoomBorn$Told" "old" "[I", Cond.fieldLink RX5 15 "RoomBorn$Told" "low" "[I", Cond.fieldLink RX5 18 "RoomBorn$Told" "high" "[I", Cond.methodLink RX5 21 yX5_tellNothing, Cond.instanceMethod yX5_tellNothing, Cond.selects RX5 yX5_tellNothing yX5_tellNothing, Cond.code yX5_tellNothing cX5_tellNothing 1 none, Cond.fieldLink RX5 24 "RoomBorn$Told" "items" "I", Cond.fieldLink RX5 28 "RoomBorn$Told" "rooms" "I", Cond.fieldLink RX5 31 "RoomBorn$Told" "mothers" "I", Cond.fieldLink RX5 34 "RoomBorn$Told" "works" "I", Cond.fieldLink RX5 37 "RoomBorn$Told" "life" "I", Cond.instanceMethod yX1_begin, Cond.selects RX1 yX1_begin yX1_begin, Cond.code yX1_begin cX1_begin 3 none, Cond.fieldLink RX1 21 "RoomBorn$Moment" "yearNumber" "I", Cond.fieldLink RX1 25 "RoomBorn$Moment" "born" "I", Cond.fieldLink RX1 28 "RoomBorn$Moment" "living" "I", Cond.static yX6_bit]
def wsL_law_r5 : List Cond := [Cond.code yX6_bit cX6_bit 1 (some .int), Cond.methodLink RL 12 yX7_init, Cond.instanceMethod yX7_init, Cond.code yX7_init cX7_init 1 none, Cond.methodLink RX7 1 objectInit, Cond.fieldLink RX7 7 "RoomBornModel" "text" "[I", Cond.fieldLink RX7 13 "RoomBornModel" "many" "[I", Cond.fieldLink RX7 16 "RoomBornModel" "oldTold" "[I", Cond.fieldLink RX7 19 "RoomBornModel" "low" "[I", Cond.fieldLink RX7 22 "RoomBornModel" "high" "[I", Cond.fieldLink RX7 25 "RoomBornModel" "s" "[I", Cond.fieldLink RX7 28 "RoomBornModel" "kept" "[I", Cond.fieldLink RX7 31 "RoomBornModel" "isKept" "[Z", Cond.fieldLink RX7 35 "RoomBornModel" "undos" "[I", Cond.fieldLink RX7 38 "RoomBornModel" "seenBy" "[I", Cond.fieldLink RX7 41 "RoomBornModel" "seen" "[I", Cond.fieldLink RX7 44 "RoomBornModel" "can" "[I", Cond.fieldLink RX7 47 "RoomBornModel" "does" "[I", Cond.fieldLink RX7 50 "RoomBornModel" "best" "[I", Cond.methodLink RX7 53 yX7_begins, Cond.instanceMethod yX7_begins, Cond.selects RX7 yX7_begins yX7_begins, Cond.code yX7_begins cX7_begins 1 none, Cond.fieldLink RX7 104 "RoomBornModel" "told" "I"]
def wsL_law_r6 : List Cond := [Cond.methodLink RX7 56 yX7_settles, Cond.instanceMethod yX7_settles, Cond.selects RX7 yX7_settles yX7_settles, Cond.code yX7_settles cX7_settles 2 none, Cond.fieldLink RX7 67 "RoomBornModel" "typed" "I", Cond.fieldLink RX7 118 "RoomBornModel" "seenMany" "I", Cond.fieldLink RX7 121 "RoomBornModel" "undoMany" "I", Cond.methodLink RL 13 yX6_type, Cond.instanceMethod yX6_type, Cond.selects RX6 yX6_type yX6_type, Cond.code yX6_type cX6_type 2 (some .int), Cond.instanceMethod yX4_add, Cond.selects RX4 yX4_add yX4_add, Cond.code yX4_add cX4_add 2 none, Cond.methodLink RL 17 yX7_type, Cond.instanceMethod yX7_type, Cond.selects RX7 yX7_type yX7_type, Cond.code yX7_type cX7_type 2 (some .int), Cond.fieldLink RX7 59 "RoomBornModel" "thrown" "I", Cond.methodLink RX7 63 yX7_in, Cond.static yX7_in, Cond.code yX7_in cX7_in 3 (some .boolean), Cond.methodLink RL 18 yX6_clear, Cond.instanceMethod yX6_clear]
def wsL_law_r7 : List Cond := [Cond.selects RX6 yX6_clear yX6_clear, Cond.code yX6_clear cX6_clear 2 (some .int), Cond.methodLink RL 22 yX7_clear, Cond.instanceMethod yX7_clear, Cond.selects RX7 yX7_clear yX7_clear, Cond.code yX7_clear cX7_clear 2 (some .int), Cond.methodLink RL 23 yX6_town, Cond.instanceMethod yX6_town, Cond.selects RX6 yX6_town yX6_town, Cond.code yX6_town cX6_town 2 (some .int), Cond.instanceMethod yX4_reads, Cond.selects RX4 yX4_reads yX4_reads, Cond.code yX4_reads cX4_reads 3 (some .boolean), Cond.fieldLink RX4 19 "RoomBorn$Text" "place" "I", Cond.fieldLink RX4 22 "RoomBorn$Text" "mothersTold" "Z", Cond.fieldLink RX4 26 "RoomBorn$Text" "lifeTold" "Z", Cond.fieldLink RX4 37 "RoomBorn$Text" "token" "I", Cond.methodLink RX4 34 yX4_readToken, Cond.instanceMethod yX4_readToken, Cond.selects RX4 yX4_readToken yX4_readToken, Cond.code yX4_readToken cX4_readToken 1 none, Cond.fieldLink RX4 91 "RoomBorn$Text" "start" "I", Cond.methodLink RX4 94 yX4_isDigit, Cond.static yX4_isDigit]
def wsL_law_r8 : List Cond := [Cond.code yX4_isDigit cX4_isDigit 1 (some .boolean), Cond.methodLink RX4 98 yX4_readDigits, Cond.instanceMethod yX4_readDigits, Cond.selects RX4 yX4_readDigits yX4_readDigits, Cond.code yX4_readDigits cX4_readDigits 2 none, Cond.fieldLink RX4 73 "RoomBorn$Text" "value" "I", Cond.methodLink RX4 101 Lib.Math.min.name, Cond.static Lib.Math.min.name, Cond.initialized "java/lang/Math", Cond.code Lib.Math.min.name Lib.Math.min.code 2 (some .int), Cond.methodLink RX4 40 yX4_readsItem, Cond.instanceMethod yX4_readsItem, Cond.selects RX4 yX4_readsItem yX4_readsItem, Cond.code yX4_readsItem cX4_readsItem 2 (some .boolean), Cond.methodLink RX4 51 yX4_readsRoom, Cond.instanceMethod yX4_readsRoom, Cond.selects RX4 yX4_readsRoom yX4_readsRoom, Cond.code yX4_readsRoom cX4_readsRoom 2 (some .boolean), Cond.methodLink RX4 66 yX4_readsNumber, Cond.instanceMethod yX4_readsNumber, Cond.selects RX4 yX4_readsNumber yX4_readsNumber, Cond.code yX4_readsNumber cX4_readsNumber 3 (some .boolean), Cond.methodLink RX4 54 yX4_readsWork, Cond.instanceMethod yX4_readsWork]
def wsL_law_r9 : List Cond := [Cond.selects RX4 yX4_readsWork yX4_readsWork, Cond.code yX4_readsWork cX4_readsWork 3 (some .boolean), Cond.methodLink RX4 57 yX4_readsMothers, Cond.instanceMethod yX4_readsMothers, Cond.selects RX4 yX4_readsMothers yX4_readsMothers, Cond.code yX4_readsMothers cX4_readsMothers 2 (some .boolean), Cond.methodLink RX4 60 yX4_readsLife, Cond.instanceMethod yX4_readsLife, Cond.selects RX4 yX4_readsLife yX4_readsLife, Cond.code yX4_readsLife cX4_readsLife 2 (some .boolean), Cond.methodLink RX4 44 yX4_readsItemEnd, Cond.instanceMethod yX4_readsItemEnd, Cond.selects RX4 yX4_readsItemEnd yX4_readsItemEnd, Cond.code yX4_readsItemEnd cX4_readsItemEnd 1 (some .boolean), Cond.methodLink RX6 85 yX6_beginAnew, Cond.instanceMethod yX6_beginAnew, Cond.selects RX6 yX6_beginAnew yX6_beginAnew, Cond.code yX6_beginAnew cX6_beginAnew 2 none, Cond.methodLink RL 26 yX7_town, Cond.instanceMethod yX7_town, Cond.selects RX7 yX7_town yX7_town, Cond.code yX7_town cX7_town 3 (some .int), Cond.fieldLink RX7 90 "RoomBornModel" "fault" "I", Cond.fieldLink RX7 70 "RoomBornModel" "at" "I"]
def wsL_law_r10 : List Cond := [Cond.fieldLink RX7 80 "RoomBornModel" "token" "I", Cond.methodLink RX7 97 yX7_advances, Cond.instanceMethod yX7_advances, Cond.selects RX7 yX7_advances yX7_advances, Cond.code yX7_advances cX7_advances 2 none, Cond.fieldLink RX7 77 "RoomBornModel" "place" "I", Cond.fieldLink RX7 83 "RoomBornModel" "value" "I", Cond.methodLink RX7 73 yX7_letterAt, Cond.instanceMethod yX7_letterAt, Cond.selects RX7 yX7_letterAt yX7_letterAt, Cond.code yX7_letterAt cX7_letterAt 2 (some .int), Cond.methodLink RX7 86 yX7_isLetter, Cond.static yX7_isLetter, Cond.code yX7_isLetter cX7_isLetter 1 (some .boolean), Cond.methodLink RX7 93 yX7_isWell, Cond.instanceMethod yX7_isWell, Cond.selects RX7 yX7_isWell yX7_isWell, Cond.code yX7_isWell cX7_isWell 1 (some .boolean), Cond.methodLink RX7 111 yX7_mayBegin, Cond.instanceMethod yX7_mayBegin, Cond.selects RX7 yX7_mayBegin yX7_mayBegin, Cond.code yX7_mayBegin cX7_mayBegin 1 (some .boolean), Cond.methodLink RX7 100 yX7_takes, Cond.instanceMethod yX7_takes]
def wsL_law_r11 : List Cond := [Cond.selects RX7 yX7_takes yX7_takes, Cond.code yX7_takes cX7_takes 3 (some .int), Cond.methodLink RX7 114 yX7_readsItem, Cond.instanceMethod yX7_readsItem, Cond.selects RX7 yX7_readsItem yX7_readsItem, Cond.code yX7_readsItem cX7_readsItem 3 none, Cond.methodLink RX7 107 yX7_number, Cond.instanceMethod yX7_number, Cond.selects RX7 yX7_number yX7_number, Cond.code yX7_number cX7_number 3 (some .int), Cond.methodLink RL 27 yX6_room, Cond.instanceMethod yX6_room, Cond.selects RX6 yX6_room yX6_room, Cond.code yX6_room cX6_room 3 (some .int), Cond.methodLink RX6 91 yX6_isRoom, Cond.instanceMethod yX6_isRoom, Cond.selects RX6 yX6_isRoom yX6_isRoom, Cond.code yX6_isRoom cX6_isRoom 2 (some .boolean), Cond.instanceMethod yX1_ageOfRoom, Cond.selects RX1 yX1_ageOfRoom yX1_ageOfRoom, Cond.code yX1_ageOfRoom cX1_ageOfRoom 2 (some .int), Cond.methodLink RX1 44 yX1_ageTogether, Cond.instanceMethod yX1_ageTogether, Cond.selects RX1 yX1_ageTogether yX1_ageTogether]
def wsL_law_r12 : List Cond := [Cond.code yX1_ageTogether cX1_ageTogether 5 (some .int), Cond.static yX6_has, Cond.code yX6_has cX6_has 2 (some .boolean), Cond.methodLink RX6 170 yX6_bit, Cond.methodLink RL 31 yX7_room, Cond.instanceMethod yX7_room, Cond.selects RX7 yX7_room yX7_room, Cond.code yX7_room cX7_room 3 (some .int), Cond.methodLink RX7 146 yX7_isRoom, Cond.instanceMethod yX7_isRoom, Cond.selects RX7 yX7_isRoom yX7_isRoom, Cond.code yX7_isRoom cX7_isRoom 2 (some .boolean), Cond.methodLink RX7 149 yX7_ageOf, Cond.instanceMethod yX7_ageOf, Cond.selects RX7 yX7_ageOf yX7_ageOf, Cond.code yX7_ageOf cX7_ageOf 2 (some .int), Cond.methodLink RX7 131 yX7_joinedWith, Cond.instanceMethod yX7_joinedWith, Cond.selects RX7 yX7_joinedWith yX7_joinedWith, Cond.code yX7_joinedWith cX7_joinedWith 4 (some .int), Cond.methodLink RX7 134 yX7_ageBy, Cond.instanceMethod yX7_ageBy, Cond.selects RX7 yX7_ageBy yX7_ageBy, Cond.code yX7_ageBy cX7_ageBy 4 (some .int)]
def wsL_law_r13 : List Cond := [Cond.methodLink RX7 124 yX7_has, Cond.static yX7_has, Cond.code yX7_has cX7_has 2 (some .boolean), Cond.methodLink RX7 128 yX7_ones, Cond.static yX7_ones, Cond.code yX7_ones cX7_ones 3 (some .int), Cond.methodLink RL 32 yX6_child, Cond.instanceMethod yX6_child, Cond.selects RX6 yX6_child yX6_child, Cond.code yX6_child cX6_child 3 (some .int), Cond.methodLink RX6 106 yX6_isMother, Cond.instanceMethod yX6_isMother, Cond.selects RX6 yX6_isMother yX6_isMother, Cond.code yX6_isMother cX6_isMother 2 (some .boolean), Cond.methodLink RX6 112 yX6_has, Cond.methodLink RX6 122 yX6_worksOfChild, Cond.instanceMethod yX6_worksOfChild, Cond.selects RX6 yX6_worksOfChild yX6_worksOfChild, Cond.code yX6_worksOfChild cX6_worksOfChild 2 (some .int), Cond.instanceMethod yX5_worksAt, Cond.selects RX5 yX5_worksAt yX5_worksAt, Cond.code yX5_worksAt cX5_worksAt 4 (some .int), Cond.methodLink RX5 44 yX5_does, Cond.instanceMethod yX5_does]
def wsL_law_r14 : List Cond := [Cond.selects RX5 yX5_does yX5_does, Cond.code yX5_does cX5_does 3 (some .boolean), Cond.methodLink RX5 40 yX5_spans, Cond.instanceMethod yX5_spans, Cond.selects RX5 yX5_spans yX5_spans, Cond.code yX5_spans cX5_spans 3 (some .boolean), Cond.methodLink RL 35 yX7_child, Cond.instanceMethod yX7_child, Cond.selects RX7 yX7_child yX7_child, Cond.code yX7_child cX7_child 3 (some .int), Cond.methodLink RX7 152 yX7_isChild, Cond.instanceMethod yX7_isChild, Cond.selects RX7 yX7_isChild yX7_isChild, Cond.code yX7_isChild cX7_isChild 2 (some .boolean), Cond.methodLink RX7 140 yX7_worksOf, Cond.instanceMethod yX7_worksOf, Cond.selects RX7 yX7_worksOf yX7_worksOf, Cond.code yX7_worksOf cX7_worksOf 2 (some .int), Cond.methodLink RX7 137 yX7_worksAt, Cond.instanceMethod yX7_worksAt, Cond.selects RX7 yX7_worksAt yX7_worksAt, Cond.code yX7_worksAt cX7_worksAt 4 (some .int), Cond.methodLink RL 36 yX6_work, Cond.instanceMethod yX6_work]
def wsL_law_r15 : List Cond := [Cond.selects RX6 yX6_work yX6_work, Cond.code yX6_work cX6_work 3 (some .int), Cond.methodLink RX6 125 yX6_isWork, Cond.instanceMethod yX6_isWork, Cond.selects RX6 yX6_isWork yX6_isWork, Cond.code yX6_isWork cX6_isWork 2 (some .boolean), Cond.methodLink RX6 134 yX6_whoCanDo, Cond.instanceMethod yX6_whoCanDo, Cond.selects RX6 yX6_whoCanDo yX6_whoCanDo, Cond.code yX6_whoCanDo cX6_whoCanDo 5 (some .int), Cond.methodLink RX6 138 yX6_yearsUntilNobody, Cond.instanceMethod yX6_yearsUntilNobody, Cond.selects RX6 yX6_yearsUntilNobody yX6_yearsUntilNobody, Cond.code yX6_yearsUntilNobody cX6_yearsUntilNobody 3 (some .int), Cond.methodLink RL 39 yX7_work, Cond.instanceMethod yX7_work, Cond.selects RX7 yX7_work yX7_work, Cond.code yX7_work cX7_work 3 (some .int), Cond.methodLink RX7 155 yX7_isWork, Cond.instanceMethod yX7_isWork, Cond.selects RX7 yX7_isWork yX7_isWork, Cond.code yX7_isWork cX7_isWork 2 (some .boolean), Cond.methodLink RX7 158 yX7_whoCan, Cond.instanceMethod yX7_whoCan]
def wsL_law_r16 : List Cond := [Cond.selects RX7 yX7_whoCan yX7_whoCan, Cond.code yX7_whoCan cX7_whoCan 4 (some .int), Cond.methodLink RX7 161 yX7_lastsOf, Cond.instanceMethod yX7_lastsOf, Cond.selects RX7 yX7_lastsOf yX7_lastsOf, Cond.code yX7_lastsOf cX7_lastsOf 3 (some .int), Cond.methodLink RX7 143 yX7_isDoneIn, Cond.instanceMethod yX7_isDoneIn, Cond.selects RX7 yX7_isDoneIn yX7_isDoneIn, Cond.code yX7_isDoneIn cX7_isDoneIn 6 (some .boolean), Cond.methodLink RL 40 yX6_now, Cond.instanceMethod yX6_now, Cond.selects RX6 yX6_now yX6_now, Cond.code yX6_now cX6_now 2 (some .int), Cond.methodLink RX6 144 yX6_mostFilled, Cond.instanceMethod yX6_mostFilled, Cond.selects RX6 yX6_mostFilled yX6_mostFilled, Cond.code yX6_mostFilled cX6_mostFilled 1 (some .int), Cond.methodLink RX6 182 yX6_tellFilling, Cond.instanceMethod yX6_tellFilling, Cond.selects RX6 yX6_tellFilling yX6_tellFilling, Cond.code yX6_tellFilling cX6_tellFilling 2 none, Cond.instanceMethod yX0_solve, Cond.selects RX0 yX0_solve yX0_solve]
def wsL_law_r17 : List Cond := [Cond.code yX0_solve cX0_solve 3 (some .int), Cond.methodLink RX0 31 yX0_mostFrom, Cond.instanceMethod yX0_mostFrom, Cond.selects RX0 yX0_mostFrom yX0_mostFrom, Cond.code yX0_mostFrom cX0_mostFrom 5 (some .int), Cond.methodLink RX0 39 Lib.Math.max.name, Cond.static Lib.Math.max.name, Cond.code Lib.Math.max.name Lib.Math.max.code 2 (some .int), Cond.methodLink RX0 35 yX0_isFree, Cond.instanceMethod yX0_isFree, Cond.selects RX0 yX0_isFree yX0_isFree, Cond.code yX0_isFree cX0_isFree 4 (some .boolean), Cond.methodLink RL 43 yX7_now, Cond.instanceMethod yX7_now, Cond.selects RX7 yX7_now yX7_now, Cond.code yX7_now cX7_now 2 (some .int), Cond.methodLink RX7 170 yX7_asNow, Cond.instanceMethod yX7_asNow, Cond.selects RX7 yX7_asNow yX7_asNow, Cond.code yX7_asNow cX7_asNow 2 none, Cond.methodLink RX7 173 yX7_filled, Cond.instanceMethod yX7_filled, Cond.selects RX7 yX7_filled yX7_filled, Cond.code yX7_filled cX7_filled 6 (some .int)]
def wsL_law_r18 : List Cond := [Cond.methodLink RX7 164 yX7_sixes, Cond.instanceMethod yX7_sixes, Cond.selects RX7 yX7_sixes yX7_sixes, Cond.code yX7_sixes cX7_sixes 4 (some .int), Cond.methodLink RX7 167 yX7_doing, Cond.instanceMethod yX7_doing, Cond.selects RX7 yX7_doing yX7_doing, Cond.code yX7_doing cX7_doing 7 (some .int), Cond.methodLink RL 44 yX6_bears, Cond.instanceMethod yX6_bears, Cond.selects RX6 yX6_bears yX6_bears, Cond.code yX6_bears cX6_bears 3 (some .int), Cond.instanceMethod yX2_remember, Cond.selects RX2 yX2_remember yX2_remember, Cond.code yX2_remember cX2_remember 2 none, Cond.methodLink RX2 29 Lib.Math.min.name, Cond.instanceMethod yX1_become, Cond.selects RX1 yX1_become yX1_become, Cond.code yX1_become cX1_become 2 none, Cond.methodLink RX1 38 arraycopyName, Cond.native arraycopyName, Cond.static arraycopyName, Cond.initialized "java/lang/System", Cond.instanceMethod yX1_bear]
def wsL_law_r19 : List Cond := [Cond.selects RX1 yX1_bear yX1_bear, Cond.code yX1_bear cX1_bear 4 (some .int), Cond.methodLink RX1 51 yX1_ageOfRoom, Cond.methodLink RL 47 yX7_bears, Cond.instanceMethod yX7_bears, Cond.selects RX7 yX7_bears yX7_bears, Cond.code yX7_bears cX7_bears 4 (some .int), Cond.methodLink RX7 177 yX7_notes, Cond.instanceMethod yX7_notes, Cond.selects RX7 yX7_notes yX7_notes, Cond.code yX7_notes cX7_notes 2 none, Cond.methodLink RL 48 yX6_year, Cond.instanceMethod yX6_year, Cond.selects RX6 yX6_year yX6_year, Cond.code yX6_year cX6_year 1 (some .int), Cond.instanceMethod yX1_passYear, Cond.selects RX1 yX1_passYear yX1_passYear, Cond.code yX1_passYear cX1_passYear 4 (some .int), Cond.methodLink RL 51 yX7_year, Cond.instanceMethod yX7_year, Cond.selects RX7 yX7_year yX7_year, Cond.code yX7_year cX7_year 4 (some .int), Cond.methodLink RL 52 yX6_joins, Cond.instanceMethod yX6_joins]
def wsL_law_r20 : List Cond := [Cond.selects RX6 yX6_joins yX6_joins, Cond.code yX6_joins cX6_joins 3 (some .int), Cond.instanceMethod yX1_knockThrough, Cond.selects RX1 yX1_knockThrough yX1_knockThrough, Cond.code yX1_knockThrough cX1_knockThrough 5 none, Cond.methodLink RL 55 yX7_joins, Cond.instanceMethod yX7_joins, Cond.selects RX7 yX7_joins yX7_joins, Cond.code yX7_joins cX7_joins 8 (some .int), Cond.methodLink RL 56 yX6_builds, Cond.instanceMethod yX6_builds, Cond.selects RX6 yX6_builds yX6_builds, Cond.code yX6_builds cX6_builds 3 (some .int), Cond.instanceMethod yX1_buildAnew, Cond.selects RX1 yX1_buildAnew yX1_buildAnew, Cond.code yX1_buildAnew cX1_buildAnew 3 none, Cond.methodLink RL 59 yX7_builds, Cond.instanceMethod yX7_builds, Cond.selects RX7 yX7_builds yX7_builds, Cond.code yX7_builds cX7_builds 7 (some .int), Cond.methodLink RL 60 yX6_undo, Cond.instanceMethod yX6_undo, Cond.selects RX6 yX6_undo yX6_undo, Cond.code yX6_undo cX6_undo 1 (some .int)]
def wsL_law_r21 : List Cond := [Cond.instanceMethod yX2_restore, Cond.selects RX2 yX2_restore yX2_restore, Cond.code yX2_restore cX2_restore 2 none, Cond.methodLink RL 63 yX7_undo, Cond.instanceMethod yX7_undo, Cond.selects RX7 yX7_undo yX7_undo, Cond.code yX7_undo cX7_undo 2 (some .int), Cond.methodLink RL 64 yX6_fills, Cond.instanceMethod yX6_fills, Cond.selects RX6 yX6_fills yX6_fills, Cond.code yX6_fills cX6_fills 2 (some .int), Cond.instanceMethod yX0_workOf, Cond.selects RX0 yX0_workOf yX0_workOf, Cond.code yX0_workOf cX0_workOf 5 (some .int), Cond.methodLink RX0 48 yX0_firstWork, Cond.instanceMethod yX0_firstWork, Cond.selects RX0 yX0_firstWork yX0_firstWork, Cond.code yX0_firstWork cX0_firstWork 4 (some .int), Cond.methodLink RL 67 yX7_fills, Cond.instanceMethod yX7_fills, Cond.selects RX7 yX7_fills yX7_fills, Cond.code yX7_fills cX7_fills 2 (some .int), Cond.methodLink RL 68 yX6_carry, Cond.instanceMethod yX6_carry]
def wsL_law_r22 : List Cond := [Cond.selects RX6 yX6_carry yX6_carry, Cond.code yX6_carry cX6_carry 7 (some .int), Cond.methodLink RL 71 yX7_carry, Cond.instanceMethod yX7_carry, Cond.selects RX7 yX7_carry yX7_carry, Cond.code yX7_carry cX7_carry 8 (some .int), Cond.methodLink RL 72 yX6_join, Cond.instanceMethod yX6_join, Cond.selects RX6 yX6_join yX6_join, Cond.code yX6_join cX6_join 6 (some .int), Cond.methodLink RX6 197 yJ6_bitCount_0f7a4, Cond.static yJ6_bitCount_0f7a4, Cond.initialized RJ6, Cond.code yJ6_bitCount_0f7a4 cJ6_bitCount_0f7a4 1 (some .int), Cond.constant RJ6 265 (1431655765), Cond.constant RJ6 266 (858993459), Cond.constant RJ6 267 (252645135), Cond.methodLink RL 75 yX7_join, Cond.instanceMethod yX7_join, Cond.selects RX7 yX7_join yX7_join, Cond.code yX7_join cX7_join 4 (some .int), Cond.methodLink RL 76 yX6_elder, Cond.instanceMethod yX6_elder, Cond.selects RX6 yX6_elder yX6_elder]
def wsL_law_r23 : List Cond := [Cond.code yX6_elder cX6_elder 3 (some .int), Cond.instanceMethod yX1_howManyAheadOf, Cond.selects RX1 yX1_howManyAheadOf yX1_howManyAheadOf, Cond.code yX1_howManyAheadOf cX1_howManyAheadOf 5 (some .int), Cond.methodLink RL 79 yX7_elder, Cond.instanceMethod yX7_elder, Cond.selects RX7 yX7_elder yX7_elder, Cond.code yX7_elder cX7_elder 6 (some .int), Cond.methodLink RL 80 yX6_odds, Cond.instanceMethod yX6_odds, Cond.selects RX6 yX6_odds yX6_odds, Cond.code yX6_odds cX6_odds 7 (some .int), Cond.methodLink RX6 211 yX6_power, Cond.static yX6_power, Cond.code yX6_power cX6_power 4 (some .int), Cond.methodLink RX6 214 yX6_roomsToDo, Cond.instanceMethod yX6_roomsToDo, Cond.selects RX6 yX6_roomsToDo yX6_roomsToDo, Cond.code yX6_roomsToDo cX6_roomsToDo 4 (some .int), Cond.methodLink RX6 217 yX6_greatestDivisor, Cond.static yX6_greatestDivisor, Cond.code yX6_greatestDivisor cX6_greatestDivisor 6 (some .int), Cond.methodLink RL 83 yX7_odds, Cond.instanceMethod yX7_odds]
def wsL_law_r24 : List Cond := [Cond.selects RX7 yX7_odds yX7_odds, Cond.code yX7_odds cX7_odds 8 (some .int), Cond.methodLink RX7 180 yX7_power, Cond.static yX7_power, Cond.code yX7_power cX7_power 4 (some .int), Cond.methodLink RX7 183 yX7_gcd, Cond.static yX7_gcd, Cond.code yX7_gcd cX7_gcd 5 (some .int), Cond.methodLink RL 84 yX6_sees, Cond.instanceMethod yX6_sees, Cond.selects RX6 yX6_sees yX6_sees, Cond.code yX6_sees cX6_sees 3 (some .int), Cond.instanceMethod yX3_add, Cond.selects RX3 yX3_add yX3_add, Cond.code yX3_add cX3_add 3 none, Cond.methodLink RL 87 yX7_sees, Cond.instanceMethod yX7_sees, Cond.selects RX7 yX7_sees yX7_sees, Cond.code yX7_sees cX7_sees 3 (some .int), Cond.methodLink RL 88 yX6_forget, Cond.instanceMethod yX6_forget, Cond.selects RX6 yX6_forget yX6_forget, Cond.code yX6_forget cX6_forget 2 (some .int), Cond.methodLink RL 91 yX7_forget]
def wsL_law_r25 : List Cond := [Cond.instanceMethod yX7_forget, Cond.selects RX7 yX7_forget yX7_forget, Cond.code yX7_forget cX7_forget 2 (some .int), Cond.methodLink RL 92 yX6_ages, Cond.instanceMethod yX6_ages, Cond.selects RX6 yX6_ages yX6_ages, Cond.code yX6_ages cX6_ages 2 (some .int), Cond.methodLink RX6 224 yX6_possibleAges, Cond.instanceMethod yX6_possibleAges, Cond.selects RX6 yX6_possibleAges yX6_possibleAges, Cond.code yX6_possibleAges cX6_possibleAges 3 (some .int), Cond.instanceMethod yX3_allows, Cond.selects RX3 yX3_allows yX3_allows, Cond.code yX3_allows cX3_allows 4 (some .boolean), Cond.methodLink RX6 227 yX6_leastAge, Cond.instanceMethod yX6_leastAge, Cond.selects RX6 yX6_leastAge yX6_leastAge, Cond.code yX6_leastAge cX6_leastAge 2 (some .int), Cond.methodLink RX6 230 yX6_greatestAge, Cond.instanceMethod yX6_greatestAge, Cond.selects RX6 yX6_greatestAge yX6_greatestAge, Cond.code yX6_greatestAge cX6_greatestAge 2 (some .int), Cond.methodLink RL 95 yX7_ages, Cond.instanceMethod yX7_ages]
def wsL_law_r26 : List Cond := [Cond.selects RX7 yX7_ages yX7_ages, Cond.code yX7_ages cX7_ages 6 (some .int), Cond.methodLink RX7 186 yX7_canBe, Cond.instanceMethod yX7_canBe, Cond.selects RX7 yX7_canBe yX7_canBe, Cond.code yX7_canBe cX7_canBe 4 (some .boolean), Cond.methodLink RL 96 yX6_next, Cond.instanceMethod yX6_next, Cond.selects RX6 yX6_next yX6_next, Cond.code yX6_next cX6_next 7 (some .int), Cond.methodLink RX6 239 Lib.Math.max.name, Cond.methodLink RX6 236 yX6_possibleAgesAtWork, Cond.instanceMethod yX6_possibleAgesAtWork, Cond.selects RX6 yX6_possibleAgesAtWork yX6_possibleAgesAtWork, Cond.code yX6_possibleAgesAtWork cX6_possibleAgesAtWork 4 (some .int), Cond.methodLink RL 99 yX7_next, Cond.instanceMethod yX7_next, Cond.selects RX7 yX7_next yX7_next, Cond.code yX7_next cX7_next 7 (some .int), Cond.methodLink RL 100 yX6_rate, Cond.instanceMethod yX6_rate, Cond.selects RX6 yX6_rate yX6_rate, Cond.code yX6_rate cX6_rate 3 (some .int), Cond.constant RX6 244 (-1000000)]
def wsL_law_r27 : List Cond := [Cond.methodLink RX6 245 yX6_rateAttic, Cond.instanceMethod yX6_rateAttic, Cond.selects RX6 yX6_rateAttic yX6_rateAttic, Cond.code yX6_rateAttic cX6_rateAttic 2 (some .int), Cond.constantLong RX6 283 (10), Cond.methodLink RX6 260 yX6_rateChild, Cond.instanceMethod yX6_rateChild, Cond.selects RX6 yX6_rateChild yX6_rateChild, Cond.code yX6_rateChild cX6_rateChild 2 (some .int), Cond.methodLink RX6 248 yX6_rateCellar, Cond.instanceMethod yX6_rateCellar, Cond.selects RX6 yX6_rateCellar yX6_rateCellar, Cond.code yX6_rateCellar cX6_rateCellar 2 (some .int), Cond.constantLong RX6 285 (100), Cond.methodLink RX6 251 yX6_rateGable, Cond.instanceMethod yX6_rateGable, Cond.selects RX6 yX6_rateGable yX6_rateGable, Cond.code yX6_rateGable cX6_rateGable 2 (some .int), Cond.constantLong RX6 287 (1000), Cond.methodLink RX6 254 yX6_rateCrypt, Cond.instanceMethod yX6_rateCrypt, Cond.selects RX6 yX6_rateCrypt yX6_rateCrypt, Cond.code yX6_rateCrypt cX6_rateCrypt 2 (some .int), Cond.constantLong RX6 289 (10000)]
def wsL_law_r28 : List Cond := [Cond.methodLink RX6 257 yX6_rateCart, Cond.instanceMethod yX6_rateCart, Cond.selects RX6 yX6_rateCart yX6_rateCart, Cond.code yX6_rateCart cX6_rateCart 2 (some .int), Cond.constantLong RX6 291 (100000), Cond.methodLink RL 103 yX7_rate, Cond.instanceMethod yX7_rate, Cond.selects RX7 yX7_rate yX7_rate, Cond.code yX7_rate cX7_rate 6 (some .int), Cond.constant RX7 189 (-1000000), Cond.fieldLink RX7 190 "RoomBornModel" "trace" "J", Cond.constantLong RX7 194 (11), Cond.constantLong RX7 196 (101), Cond.constantLong RX7 198 (1011), Cond.constantLong RX7 200 (10101), Cond.constantLong RX7 202 (100001), Cond.methodLink RL 104 yX6_keep, Cond.instanceMethod yX6_keep, Cond.selects RX6 yX6_keep yX6_keep, Cond.code yX6_keep cX6_keep 2 (some .int), Cond.methodLink RX6 263 yX6_isImage, Cond.static yX6_isImage, Cond.code yX6_isImage cX6_isImage 1 (some .boolean), Cond.methodLink RL 107 yX7_keep]
def wsL_law_r29 : List Cond := [Cond.instanceMethod yX7_keep, Cond.selects RX7 yX7_keep yX7_keep, Cond.code yX7_keep cX7_keep 3 (some .int), Cond.methodLink RL 108 yX6_back, Cond.instanceMethod yX6_back, Cond.selects RX6 yX6_back yX6_back, Cond.code yX6_back cX6_back 2 (some .int), Cond.methodLink RL 111 yX7_back, Cond.instanceMethod yX7_back, Cond.selects RX7 yX7_back yX7_back, Cond.code yX7_back cX7_back 3 (some .int), Cond.methodLink RL 112 yX6_count, Cond.instanceMethod yX6_count, Cond.selects RX6 yX6_count yX6_count, Cond.code yX6_count cX6_count 2 (some .int), Cond.methodLink RL 115 yX7_count, Cond.instanceMethod yX7_count, Cond.selects RX7 yX7_count yX7_count, Cond.code yX7_count cX7_count 2 (some .int), Cond.methodLink RL 116 yX6_trace, Cond.instanceMethod yX6_trace, Cond.selects RX6 yX6_trace yX6_trace, Cond.code yX6_trace cX6_trace 1 (some .long), Cond.methodLink RL 120 yX7_trace]
def wsL_law_r30 : List Cond := [Cond.instanceMethod yX7_trace, Cond.selects RX7 yX7_trace yX7_trace, Cond.code yX7_trace cX7_trace 1 (some .long)]
def wsL_law : List Cond := (wsL_law_r1 ++ (wsL_law_r2 ++ (wsL_law_r3 ++ (wsL_law_r4 ++ (wsL_law_r5 ++ (wsL_law_r6 ++ (wsL_law_r7 ++ (wsL_law_r8 ++ (wsL_law_r9 ++ (wsL_law_r10 ++ (wsL_law_r11 ++ (wsL_law_r12 ++ (wsL_law_r13 ++ (wsL_law_r14 ++ (wsL_law_r15 ++ (wsL_law_r16 ++ (wsL_law_r17 ++ (wsL_law_r18 ++ (wsL_law_r19 ++ (wsL_law_r20 ++ (wsL_law_r21 ++ (wsL_law_r22 ++ (wsL_law_r23 ++ (wsL_law_r24 ++ (wsL_law_r25 ++ (wsL_law_r26 ++ (wsL_law_r27 ++ (wsL_law_r28 ++ (wsL_law_r29 ++ wsL_law_r30))))))))))))))))))))))))))))) ++ wsX60 ++ wsX70 ++ wsX40 ++ wsX10 ++ wsX20 ++ wsX00 ++ wsX30 ++ wsX50 ++ ([] : List Cond)
set_option maxRecDepth 20000 in
theorem wsL_law_in : ∀ w ∈ wsL_law, w ∈ lw_tbl := fun w h => (goodIn_p wsL_law [95, 98, 103, 137, 168, 188, 213, 230, 235, 283, 286, 680, 685, 689, 321, 325, 769, 772, 329, 776, 333, 337, 342, 345, 349, 352, 356, 360, 364, 368, 372, 376, 380, 384, 780, 784, 788, 791, 795, 799, 803, 807, 811, 388, 392, 396, 400, 403, 815, 819, 823, 827, 831, 834, 837, 408, 412, 417, 421, 425, 429, 841, 845, 849, 853, 434, 438, 442, 447, 857, 861, 865, 869, 873, 451, 455, 459, 463, 468, 476, 472, 877, 881, 885, 889, 893, 480, 484, 488, 496, 897, 901, 501, 505, 905, 509, 513, 909, 517, 521, 913, 525, 529, 917, 533, 537, 541, 921, 545, 925, 549, 552, 929, 560, 564, 933, 568, 571, 575, 578, 937, 940, 943, 582, 586, 947, 590, 951, 594, 598, 602, 607, 611, 955, 959, 615, 619, 963, 625, 630, 635, 639, 644, 649, 654, 967, 659, 662, 977, 667, 981, 671, 985, 675, 989] (by decide +kernel) (by decide +kernel) w h).1
theorem inlX0 : ∀ w ∈ wsX00, w ∈ wsL_law := fun _ h => List.mem_append_left _ (List.mem_append_left _ (List.mem_append_left _ (List.mem_append_right _ h)))
theorem inX0 : ∀ w ∈ wsX00, w ∈ lw_tbl := fun w h => wsL_law_in w (inlX0 w h)
theorem inlX1 : ∀ w ∈ wsX10, w ∈ wsL_law := fun _ h => List.mem_append_left _ (List.mem_append_left _ (List.mem_append_left _ (List.mem_append_left _ (List.mem_append_left _ (List.mem_append_right _ h)))))
theorem inX1 : ∀ w ∈ wsX10, w ∈ lw_tbl := fun w h => wsL_law_in w (inlX1 w h)
theorem inlX2 : ∀ w ∈ wsX20, w ∈ wsL_law := fun _ h => List.mem_append_left _ (List.mem_append_left _ (List.mem_append_left _ (List.mem_append_left _ (List.mem_append_right _ h))))
theorem inX2 : ∀ w ∈ wsX20, w ∈ lw_tbl := fun w h => wsL_law_in w (inlX2 w h)
theorem inlX3 : ∀ w ∈ wsX30, w ∈ wsL_law := fun _ h => List.mem_append_left _ (List.mem_append_left _ (List.mem_append_right _ h))
theorem inX3 : ∀ w ∈ wsX30, w ∈ lw_tbl := fun w h => wsL_law_in w (inlX3 w h)
theorem inlX4 : ∀ w ∈ wsX40, w ∈ wsL_law := fun _ h => List.mem_append_left _ (List.mem_append_left _ (List.mem_append_left _ (List.mem_append_left _ (List.mem_append_left _ (List.mem_append_left _ (List.mem_append_right _ h))))))
theorem inX4 : ∀ w ∈ wsX40, w ∈ lw_tbl := fun w h => wsL_law_in w (inlX4 w h)
theorem inlX5 : ∀ w ∈ wsX50, w ∈ wsL_law := fun _ h => List.mem_append_left _ (List.mem_append_right _ h)
theorem inX5 : ∀ w ∈ wsX50, w ∈ lw_tbl := fun w h => wsL_law_in w (inlX5 w h)
theorem inlX6 : ∀ w ∈ wsX60, w ∈ wsL_law := fun _ h => List.mem_append_left _ (List.mem_append_left _ (List.mem_append_left _ (List.mem_append_left _ (List.mem_append_left _ (List.mem_append_left _ (List.mem_append_left _ (List.mem_append_left _ (List.mem_append_right _ h))))))))
theorem inX6 : ∀ w ∈ wsX60, w ∈ lw_tbl := fun w h => wsL_law_in w (inlX6 w h)
theorem inlX7 : ∀ w ∈ wsX70, w ∈ wsL_law := fun _ h => List.mem_append_left _ (List.mem_append_left _ (List.mem_append_left _ (List.mem_append_left _ (List.mem_append_left _ (List.mem_append_left _ (List.mem_append_left _ (List.mem_append_right _ h)))))))
theorem inX7 : ∀ w ∈ wsX70, w ∈ lw_tbl := fun w h => wsL_law_in w (inlX7 w h)
theorem inJ6 : ∀ w ∈ wsJ60, w ∈ lw_tbl := by decide +kernel
theorem inJ9 : ∀ w ∈ wsJ90, w ∈ lw_tbl := by decide +kernel
theorem inJ10 : ∀ w ∈ wsJ100, w ∈ lw_tbl := by decide +kernel
theorem dX0_init_0 : decode cX0_init 0 = .ok (.aload_n 0, 1) := by decide +kernel
theorem dX0_init_1 : decode cX0_init 1 = .ok (.invokespecial 3, 3) := by decide +kernel
theorem dX0_init_4 : decode cX0_init 4 = .ok (.aload_n 0, 1) := by decide +kernel
theorem dX0_init_5 : decode cX0_init 5 = .ok (.bipush 6, 2) := by decide +kernel
theorem dX0_init_7 : decode cX0_init 7 = .ok (.newarray .int, 2) := by decide +kernel
theorem dX0_init_9 : decode cX0_init 9 = .ok (.putfield 9, 3) := by decide +kernel
theorem dX0_init_12 : decode cX0_init 12 = .ok (.aload_n 0, 1) := by decide +kernel
theorem dX0_init_13 : decode cX0_init 13 = .ok (.bipush 7, 2) := by decide +kernel
theorem dX0_init_15 : decode cX0_init 15 = .ok (.bipush 32, 2) := by decide +kernel
theorem dX0_init_17 : decode cX0_init 17 = .ok (.multianewarray 15 2, 4) := by decide +kernel
theorem dX0_init_21 : decode cX0_init 21 = .ok (.putfield 17, 3) := by decide +kernel
theorem dX0_init_24 : decode cX0_init 24 = .ok (.aload_n 0, 1) := by decide +kernel
theorem dX0_init_25 : decode cX0_init 25 = .ok (.iconst 0, 1) := by decide +kernel
theorem dX0_init_26 : decode cX0_init 26 = .ok (.putfield 20, 3) := by decide +kernel
theorem dX0_init_29 : decode cX0_init 29 = .ok (.aload_n 0, 1) := by decide +kernel
theorem dX0_init_30 : decode cX0_init 30 = .ok (.iconst 0, 1) := by decide +kernel
theorem dX0_init_31 : decode cX0_init 31 = .ok (.putfield 24, 3) := by decide +kernel
theorem dX0_init_34 : decode cX0_init 34 = .ok (.return_, 1) := by decide +kernel
set_option maxRecDepth 20000 in
theorem ggX0_solve_X6_bit : GoodIn wsX0_solve wsX6_bit := goodIn_r _ [6] (by decide +kernel) (by decide +kernel)
set_option maxRecDepth 20000 in
theorem gX0_solve_X6_bit_n27 : GoodIn wsX0_solve (wsX6_bit) := ggX0_solve_X6_bit
set_option maxRecDepth 20000 in
theorem ggX0_solve_X0_mostFrom : GoodIn wsX0_solve wsX0_mostFrom := goodIn_r _ [11, 2, 1, 12, 13, 14, 15, 16, 17, 18, 10, 19, 20, 21, 5, 22, 23, 4, 6, 24, 25, 26, 27] (by decide +kernel) (by decide +kernel)
set_option maxRecDepth 20000 in
theorem gX0_solve_X0_mostFrom : GoodIn wsX0_solve (wsV RX0 31 RX0 yX0_mostFrom wsX0_mostFrom) := goodIn_app (goodIn_of _ (by decide +kernel)) ggX0_solve_X0_mostFrom
theorem dX0_solve_0 : decode cX0_solve 0 = .ok (.iconst 0, 1) := by decide +kernel
theorem dX0_solve_1 : decode cX0_solve 1 = .ok (.istore_n 1, 1) := by decide +kernel
theorem dX0_solve_2 : decode cX0_solve 2 = .ok (.iload_n 1, 1) := by decide +kernel
theorem dX0_solve_3 : decode cX0_solve 3 = .ok (.aload_n 0, 1) := by decide +kernel
theorem dX0_solve_4 : decode cX0_solve 4 = .ok (.getfield 24, 3) := by decide +kernel
theorem dX0_solve_7 : decode cX0_solve 7 = .ok (.invokestatic 27, 3) := by decide +kernel
theorem dX0_solve_10 : decode cX0_solve 10 = .ok (.if_icmp .ge 21, 3) := by decide +kernel
theorem dX0_solve_13 : decode cX0_solve 13 = .ok (.aload_n 0, 1) := by decide +kernel
theorem dX0_solve_14 : decode cX0_solve 14 = .ok (.getfield 17, 3) := by decide +kernel
theorem dX0_solve_17 : decode cX0_solve 17 = .ok (.aload_n 0, 1) := by decide +kernel
theorem dX0_solve_18 : decode cX0_solve 18 = .ok (.getfield 20, 3) := by decide +kernel
theorem dX0_solve_21 : decode cX0_solve 21 = .ok (.aaload, 1) := by decide +kernel
theorem dX0_solve_22 : decode cX0_solve 22 = .ok (.iload_n 1, 1) := by decide +kernel
theorem dX0_solve_23 : decode cX0_solve 23 = .ok (.iconst 0, 1) := by decide +kernel
theorem dX0_solve_24 : decode cX0_solve 24 = .ok (.iastore, 1) := by decide +kernel
theorem dX0_solve_25 : decode cX0_solve 25 = .ok (.iinc 1 1, 3) := by decide +kernel
theorem dX0_solve_28 : decode cX0_solve 28 = .ok (.goto (-26), 3) := by decide +kernel
theorem dX0_solve_31 : decode cX0_solve 31 = .ok (.aload_n 0, 1) := by decide +kernel
theorem dX0_solve_32 : decode cX0_solve 32 = .ok (.getfield 20, 3) := by decide +kernel
theorem dX0_solve_35 : decode cX0_solve 35 = .ok (.iconst 1, 1) := by decide +kernel
theorem dX0_solve_36 : decode cX0_solve 36 = .ok (.isub, 1) := by decide +kernel
theorem dX0_solve_37 : decode cX0_solve 37 = .ok (.istore_n 1, 1) := by decide +kernel
theorem dX0_solve_38 : decode cX0_solve 38 = .ok (.iload_n 1, 1) := by decide +kernel
theorem dX0_solve_39 : decode cX0_solve 39 = .ok (.ifCond .lt 42, 3) := by decide +kernel
theorem dX0_solve_42 : decode cX0_solve 42 = .ok (.iconst 0, 1) := by decide +kernel
theorem dX0_solve_43 : decode cX0_solve 43 = .ok (.istore_n 2, 1) := by decide +kernel
theorem dX0_solve_44 : decode cX0_solve 44 = .ok (.iload_n 2, 1) := by decide +kernel
theorem dX0_solve_45 : decode cX0_solve 45 = .ok (.aload_n 0, 1) := by decide +kernel
theorem dX0_solve_46 : decode cX0_solve 46 = .ok (.getfield 24, 3) := by decide +kernel
theorem dX0_solve_49 : decode cX0_solve 49 = .ok (.invokestatic 27, 3) := by decide +kernel
theorem dX0_solve_52 : decode cX0_solve 52 = .ok (.if_icmp .ge 23, 3) := by decide +kernel
theorem dX0_solve_55 : decode cX0_solve 55 = .ok (.aload_n 0, 1) := by decide +kernel
theorem dX0_solve_56 : decode cX0_solve 56 = .ok (.getfield 17, 3) := by decide +kernel
theorem dX0_solve_59 : decode cX0_solve 59 = .ok (.iload_n 1, 1) := by decide +kernel
theorem dX0_solve_60 : decode cX0_solve 60 = .ok (.aaload, 1) := by decide +kernel
theorem dX0_solve_61 : decode cX0_solve 61 = .ok (.iload_n 2, 1) := by decide +kernel
theorem dX0_solve_62 : decode cX0_solve 62 = .ok (.aload_n 0, 1) := by decide +kernel
theorem dX0_solve_63 : decode cX0_solve 63 = .ok (.iload_n 1, 1) := by decide +kernel
theorem dX0_solve_64 : decode cX0_solve 64 = .ok (.iload_n 2, 1) := by decide +kernel
theorem dX0_solve_65 : decode cX0_solve 65 = .ok (.invokevirtual 31, 3) := by decide +kernel
theorem dX0_solve_68 : decode cX0_solve 68 = .ok (.iastore, 1) := by decide +kernel
theorem dX0_solve_69 : decode cX0_solve 69 = .ok (.iinc 2 1, 3) := by decide +kernel
theorem dX0_solve_72 : decode cX0_solve 72 = .ok (.goto (-28), 3) := by decide +kernel
theorem dX0_solve_75 : decode cX0_solve 75 = .ok (.iinc 1 (-1), 3) := by decide +kernel
theorem dX0_solve_78 : decode cX0_solve 78 = .ok (.goto (-40), 3) := by decide +kernel
theorem dX0_solve_81 : decode cX0_solve 81 = .ok (.aload_n 0, 1) := by decide +kernel
theorem dX0_solve_82 : decode cX0_solve 82 = .ok (.getfield 17, 3) := by decide +kernel
theorem dX0_solve_85 : decode cX0_solve 85 = .ok (.iconst 0, 1) := by decide +kernel
theorem dX0_solve_86 : decode cX0_solve 86 = .ok (.aaload, 1) := by decide +kernel
theorem dX0_solve_87 : decode cX0_solve 87 = .ok (.iconst 0, 1) := by decide +kernel
theorem dX0_solve_88 : decode cX0_solve 88 = .ok (.iaload, 1) := by decide +kernel
theorem dX0_solve_89 : decode cX0_solve 89 = .ok (.ireturn, 1) := by decide +kernel
set_option maxRecDepth 20000 in
theorem ggX0_mostFrom_X0_isFree : GoodIn wsX0_mostFrom wsX0_isFree := goodIn_r _ [11, 12, 13, 14, 15, 16, 17, 18, 19, 20, 21, 22] (by decide +kernel) (by decide +kernel)
set_option maxRecDepth 20000 in
theorem gX0_mostFrom_X0_isFree : GoodIn wsX0_mostFrom (wsV RX0 35 RX0 yX0_isFree wsX0_isFree) := goodIn_app (goodIn_of _ (by decide +kernel)) ggX0_mostFrom_X0_isFree
set_option maxRecDepth 20000 in
theorem ggX0_mostFrom_X6_bit : GoodIn wsX0_mostFrom wsX6_bit := goodIn_r _ [18] (by decide +kernel) (by decide +kernel)
set_option maxRecDepth 20000 in
theorem gX0_mostFrom_X6_bit_n27 : GoodIn wsX0_mostFrom (wsX6_bit) := ggX0_mostFrom_X6_bit
theorem dX0_mostFrom_0 : decode cX0_mostFrom 0 = .ok (.aload_n 0, 1) := by decide +kernel
theorem dX0_mostFrom_1 : decode cX0_mostFrom 1 = .ok (.getfield 17, 3) := by decide +kernel
theorem dX0_mostFrom_4 : decode cX0_mostFrom 4 = .ok (.iload_n 1, 1) := by decide +kernel
theorem dX0_mostFrom_5 : decode cX0_mostFrom 5 = .ok (.iconst 1, 1) := by decide +kernel
theorem dX0_mostFrom_6 : decode cX0_mostFrom 6 = .ok (.iadd, 1) := by decide +kernel
theorem dX0_mostFrom_7 : decode cX0_mostFrom 7 = .ok (.aaload, 1) := by decide +kernel
theorem dX0_mostFrom_8 : decode cX0_mostFrom 8 = .ok (.iload_n 2, 1) := by decide +kernel
theorem dX0_mostFrom_9 : decode cX0_mostFrom 9 = .ok (.iaload, 1) := by decide +kernel
theorem dX0_mostFrom_10 : decode cX0_mostFrom 10 = .ok (.istore_n 3, 1) := by decide +kernel
theorem dX0_mostFrom_11 : decode cX0_mostFrom 11 = .ok (.iconst 0, 1) := by decide +kernel
theorem dX0_mostFrom_12 : decode cX0_mostFrom 12 = .ok (.istore 4, 2) := by decide +kernel
theorem dX0_mostFrom_14 : decode cX0_mostFrom 14 = .ok (.iload 4, 2) := by decide +kernel
theorem dX0_mostFrom_16 : decode cX0_mostFrom 16 = .ok (.aload_n 0, 1) := by decide +kernel
theorem dX0_mostFrom_17 : decode cX0_mostFrom 17 = .ok (.getfield 24, 3) := by decide +kernel
theorem dX0_mostFrom_20 : decode cX0_mostFrom 20 = .ok (.if_icmp .ge 43, 3) := by decide +kernel
theorem dX0_mostFrom_23 : decode cX0_mostFrom 23 = .ok (.aload_n 0, 1) := by decide +kernel
theorem dX0_mostFrom_24 : decode cX0_mostFrom 24 = .ok (.iload_n 1, 1) := by decide +kernel
theorem dX0_mostFrom_25 : decode cX0_mostFrom 25 = .ok (.iload 4, 2) := by decide +kernel
theorem dX0_mostFrom_27 : decode cX0_mostFrom 27 = .ok (.iload_n 2, 1) := by decide +kernel
theorem dX0_mostFrom_28 : decode cX0_mostFrom 28 = .ok (.invokevirtual 35, 3) := by decide +kernel
theorem dX0_mostFrom_31 : decode cX0_mostFrom 31 = .ok (.ifCond .eq 26, 3) := by decide +kernel
theorem dX0_mostFrom_34 : decode cX0_mostFrom 34 = .ok (.iload_n 3, 1) := by decide +kernel
theorem dX0_mostFrom_35 : decode cX0_mostFrom 35 = .ok (.iconst 1, 1) := by decide +kernel
theorem dX0_mostFrom_36 : decode cX0_mostFrom 36 = .ok (.aload_n 0, 1) := by decide +kernel
theorem dX0_mostFrom_37 : decode cX0_mostFrom 37 = .ok (.getfield 17, 3) := by decide +kernel
theorem dX0_mostFrom_40 : decode cX0_mostFrom 40 = .ok (.iload_n 1, 1) := by decide +kernel
theorem dX0_mostFrom_41 : decode cX0_mostFrom 41 = .ok (.iconst 1, 1) := by decide +kernel
theorem dX0_mostFrom_42 : decode cX0_mostFrom 42 = .ok (.iadd, 1) := by decide +kernel
theorem dX0_mostFrom_43 : decode cX0_mostFrom 43 = .ok (.aaload, 1) := by decide +kernel
theorem dX0_mostFrom_44 : decode cX0_mostFrom 44 = .ok (.iload_n 2, 1) := by decide +kernel
theorem dX0_mostFrom_45 : decode cX0_mostFrom 45 = .ok (.iload 4, 2) := by decide +kernel
theorem dX0_mostFrom_47 : decode cX0_mostFrom 47 = .ok (.invokestatic 27, 3) := by decide +kernel
theorem dX0_mostFrom_50 : decode cX0_mostFrom 50 = .ok (.ior, 1) := by decide +kernel
theorem dX0_mostFrom_51 : decode cX0_mostFrom 51 = .ok (.iaload, 1) := by decide +kernel
theorem dX0_mostFrom_52 : decode cX0_mostFrom 52 = .ok (.iadd, 1) := by decide +kernel
theorem dX0_mostFrom_53 : decode cX0_mostFrom 53 = .ok (.invokestatic 39, 3) := by decide +kernel
theorem dX0_mostFrom_56 : decode cX0_mostFrom 56 = .ok (.istore_n 3, 1) := by decide +kernel
theorem dX0_mostFrom_57 : decode cX0_mostFrom 57 = .ok (.iinc 4 1, 3) := by decide +kernel
theorem dX0_mostFrom_60 : decode cX0_mostFrom 60 = .ok (.goto (-46), 3) := by decide +kernel
theorem dX0_mostFrom_63 : decode cX0_mostFrom 63 = .ok (.iload_n 3, 1) := by decide +kernel
theorem dX0_mostFrom_64 : decode cX0_mostFrom 64 = .ok (.ireturn, 1) := by decide +kernel
set_option maxRecDepth 20000 in
theorem ggX0_isFree_X6_has : GoodIn wsX0_isFree wsX6_has := goodIn_r _ [4, 5, 6, 3, 7] (by decide +kernel) (by decide +kernel)
set_option maxRecDepth 20000 in
theorem gX0_isFree_X6_has_n44 : GoodIn wsX0_isFree (wsX6_has) := ggX0_isFree_X6_has
theorem dX0_isFree_0 : decode cX0_isFree 0 = .ok (.aload_n 0, 1) := by decide +kernel
theorem dX0_isFree_1 : decode cX0_isFree 1 = .ok (.getfield 9, 3) := by decide +kernel
theorem dX0_isFree_4 : decode cX0_isFree 4 = .ok (.iload_n 1, 1) := by decide +kernel
theorem dX0_isFree_5 : decode cX0_isFree 5 = .ok (.iaload, 1) := by decide +kernel
theorem dX0_isFree_6 : decode cX0_isFree 6 = .ok (.iload_n 2, 1) := by decide +kernel
theorem dX0_isFree_7 : decode cX0_isFree 7 = .ok (.invokestatic 44, 3) := by decide +kernel
theorem dX0_isFree_10 : decode cX0_isFree 10 = .ok (.ifCond .eq 15, 3) := by decide +kernel
theorem dX0_isFree_13 : decode cX0_isFree 13 = .ok (.iload_n 3, 1) := by decide +kernel
theorem dX0_isFree_14 : decode cX0_isFree 14 = .ok (.iload_n 2, 1) := by decide +kernel
theorem dX0_isFree_15 : decode cX0_isFree 15 = .ok (.invokestatic 44, 3) := by decide +kernel
theorem dX0_isFree_18 : decode cX0_isFree 18 = .ok (.ifCond .ne 7, 3) := by decide +kernel
theorem dX0_isFree_21 : decode cX0_isFree 21 = .ok (.iconst 1, 1) := by decide +kernel
theorem dX0_isFree_22 : decode cX0_isFree 22 = .ok (.goto 4, 3) := by decide +kernel
theorem dX0_isFree_25 : decode cX0_isFree 25 = .ok (.iconst 0, 1) := by decide +kernel
theorem dX0_isFree_26 : decode cX0_isFree 26 = .ok (.ireturn, 1) := by decide +kernel
set_option maxRecDepth 20000 in
theorem ggX0_workOf_X0_firstWork : GoodIn wsX0_workOf wsX0_firstWork := goodIn_r _ [5, 6, 7, 8, 9, 10, 4, 11, 12, 13, 14, 15, 16, 17, 18, 19, 20, 21, 22] (by decide +kernel) (by decide +kernel)
set_option maxRecDepth 20000 in
theorem gX0_workOf_X0_firstWork : GoodIn wsX0_workOf (wsV RX0 48 RX0 yX0_firstWork wsX0_firstWork) := goodIn_app (goodIn_of _ (by decide +kernel)) ggX0_workOf_X0_firstWork
set_option maxRecDepth 20000 in
theorem ggX0_workOf_X6_bit : GoodIn wsX0_workOf wsX6_bit := goodIn_r _ [18] (by decide +kernel) (by decide +kernel)
set_option maxRecDepth 20000 in
theorem gX0_workOf_X6_bit_n27 : GoodIn wsX0_workOf (wsX6_bit) := ggX0_workOf_X6_bit
theorem dX0_workOf_0 : decode cX0_workOf 0 = .ok (.iconst 0, 1) := by decide +kernel
theorem dX0_workOf_1 : decode cX0_workOf 1 = .ok (.istore_n 2, 1) := by decide +kernel
theorem dX0_workOf_2 : decode cX0_workOf 2 = .ok (.bipush (-9), 2) := by decide +kernel
theorem dX0_workOf_4 : decode cX0_workOf 4 = .ok (.istore_n 3, 1) := by decide +kernel
theorem dX0_workOf_5 : decode cX0_workOf 5 = .ok (.iconst 0, 1) := by decide +kernel
theorem dX0_workOf_6 : decode cX0_workOf 6 = .ok (.istore 4, 2) := by decide +kernel
theorem dX0_workOf_8 : decode cX0_workOf 8 = .ok (.iload 4, 2) := by decide +kernel
theorem dX0_workOf_10 : decode cX0_workOf 10 = .ok (.iload_n 1, 1) := by decide +kernel
theorem dX0_workOf_11 : decode cX0_workOf 11 = .ok (.if_icmp .gt 30, 3) := by decide +kernel
theorem dX0_workOf_14 : decode cX0_workOf 14 = .ok (.aload_n 0, 1) := by decide +kernel
theorem dX0_workOf_15 : decode cX0_workOf 15 = .ok (.iload 4, 2) := by decide +kernel
theorem dX0_workOf_17 : decode cX0_workOf 17 = .ok (.iload_n 2, 1) := by decide +kernel
theorem dX0_workOf_18 : decode cX0_workOf 18 = .ok (.invokevirtual 48, 3) := by decide +kernel
theorem dX0_workOf_21 : decode cX0_workOf 21 = .ok (.istore_n 3, 1) := by decide +kernel
theorem dX0_workOf_22 : decode cX0_workOf 22 = .ok (.iload_n 3, 1) := by decide +kernel
theorem dX0_workOf_23 : decode cX0_workOf 23 = .ok (.bipush (-9), 2) := by decide +kernel
theorem dX0_workOf_25 : decode cX0_workOf 25 = .ok (.if_icmp .eq 10, 3) := by decide +kernel
theorem dX0_workOf_28 : decode cX0_workOf 28 = .ok (.iload_n 2, 1) := by decide +kernel
theorem dX0_workOf_29 : decode cX0_workOf 29 = .ok (.iload_n 3, 1) := by decide +kernel
theorem dX0_workOf_30 : decode cX0_workOf 30 = .ok (.invokestatic 27, 3) := by decide +kernel
theorem dX0_workOf_33 : decode cX0_workOf 33 = .ok (.ior, 1) := by decide +kernel
theorem dX0_workOf_34 : decode cX0_workOf 34 = .ok (.istore_n 2, 1) := by decide +kernel
theorem dX0_workOf_35 : decode cX0_workOf 35 = .ok (.iinc 4 1, 3) := by decide +kernel
theorem dX0_workOf_38 : decode cX0_workOf 38 = .ok (.goto (-30), 3) := by decide +kernel
theorem dX0_workOf_41 : decode cX0_workOf 41 = .ok (.iload_n 3, 1) := by decide +kernel
theorem dX0_workOf_42 : decode cX0_workOf 42 = .ok (.ireturn, 1) := by decide +kernel
set_option maxRecDepth 20000 in
theorem ggX0_firstWork_X0_isFree : GoodIn wsX0_firstWork wsX0_isFree := goodIn_r _ [7, 8, 9, 10, 11, 12, 13, 14, 15, 16, 17, 18] (by decide +kernel) (by decide +kernel)
set_option maxRecDepth 20000 in
theorem gX0_firstWork_X0_isFree : GoodIn wsX0_firstWork (wsV RX0 35 RX0 yX0_isFree wsX0_isFree) := goodIn_app (goodIn_of _ (by decide +kernel)) ggX0_firstWork_X0_isFree
set_option maxRecDepth 20000 in
theorem ggX0_firstWork_X6_bit : GoodIn wsX0_firstWork wsX6_bit := goodIn_r _ [14] (by decide +kernel) (by decide +kernel)
set_option maxRecDepth 20000 in
theorem gX0_firstWork_X6_bit_n27 : GoodIn wsX0_firstWork (wsX6_bit) := ggX0_firstWork_X6_bit
theorem dX0_firstWork_0 : decode cX0_firstWork 0 = .ok (.iconst 0, 1) := by decide +kernel
theorem dX0_firstWork_1 : decode cX0_firstWork 1 = .ok (.istore_n 3, 1) := by decide +kernel
theorem dX0_firstWork_2 : decode cX0_firstWork 2 = .ok (.iload_n 3, 1) := by decide +kernel
theorem dX0_firstWork_3 : decode cX0_firstWork 3 = .ok (.aload_n 0, 1) := by decide +kernel
theorem dX0_firstWork_4 : decode cX0_firstWork 4 = .ok (.getfield 24, 3) := by decide +kernel
theorem dX0_firstWork_7 : decode cX0_firstWork 7 = .ok (.if_icmp .ge 49, 3) := by decide +kernel
theorem dX0_firstWork_10 : decode cX0_firstWork 10 = .ok (.aload_n 0, 1) := by decide +kernel
theorem dX0_firstWork_11 : decode cX0_firstWork 11 = .ok (.iload_n 1, 1) := by decide +kernel
theorem dX0_firstWork_12 : decode cX0_firstWork 12 = .ok (.iload_n 3, 1) := by decide +kernel
theorem dX0_firstWork_13 : decode cX0_firstWork 13 = .ok (.iload_n 2, 1) := by decide +kernel
theorem dX0_firstWork_14 : decode cX0_firstWork 14 = .ok (.invokevirtual 35, 3) := by decide +kernel
theorem dX0_firstWork_17 : decode cX0_firstWork 17 = .ok (.ifCond .eq 33, 3) := by decide +kernel
theorem dX0_firstWork_20 : decode cX0_firstWork 20 = .ok (.iconst 1, 1) := by decide +kernel
theorem dX0_firstWork_21 : decode cX0_firstWork 21 = .ok (.aload_n 0, 1) := by decide +kernel
theorem dX0_firstWork_22 : decode cX0_firstWork 22 = .ok (.getfield 17, 3) := by decide +kernel
theorem dX0_firstWork_25 : decode cX0_firstWork 25 = .ok (.iload_n 1, 1) := by decide +kernel
theorem dX0_firstWork_26 : decode cX0_firstWork 26 = .ok (.iconst 1, 1) := by decide +kernel
theorem dX0_firstWork_27 : decode cX0_firstWork 27 = .ok (.iadd, 1) := by decide +kernel
theorem dX0_firstWork_28 : decode cX0_firstWork 28 = .ok (.aaload, 1) := by decide +kernel
theorem dX0_firstWork_29 : decode cX0_firstWork 29 = .ok (.iload_n 2, 1) := by decide +kernel
theorem dX0_firstWork_30 : decode cX0_firstWork 30 = .ok (.iload_n 3, 1) := by decide +kernel
theorem dX0_firstWork_31 : decode cX0_firstWork 31 = .ok (.invokestatic 27, 3) := by decide +kernel
theorem dX0_firstWork_34 : decode cX0_firstWork 34 = .ok (.ior, 1) := by decide +kernel
theorem dX0_firstWork_35 : decode cX0_firstWork 35 = .ok (.iaload, 1) := by decide +kernel
theorem dX0_firstWork_36 : decode cX0_firstWork 36 = .ok (.iadd, 1) := by decide +kernel
theorem dX0_firstWork_37 : decode cX0_firstWork 37 = .ok (.aload_n 0, 1) := by decide +kernel
theorem dX0_firstWork_38 : decode cX0_firstWork 38 = .ok (.getfield 17, 3) := by decide +kernel
theorem dX0_firstWork_41 : decode cX0_firstWork 41 = .ok (.iload_n 1, 1) := by decide +kernel
theorem dX0_firstWork_42 : decode cX0_firstWork 42 = .ok (.aaload, 1) := by decide +kernel
theorem dX0_firstWork_43 : decode cX0_firstWork 43 = .ok (.iload_n 2, 1) := by decide +kernel
theorem dX0_firstWork_44 : decode cX0_firstWork 44 = .ok (.iaload, 1) := by decide +kernel
theorem dX0_firstWork_45 : decode cX0_firstWork 45 = .ok (.if_icmp .ne 5, 3) := by decide +kernel
theorem dX0_firstWork_48 : decode cX0_firstWork 48 = .ok (.iload_n 3, 1) := by decide +kernel
theorem dX0_firstWork_49 : decode cX0_firstWork 49 = .ok (.ireturn, 1) := by decide +kernel
theorem dX0_firstWork_50 : decode cX0_firstWork 50 = .ok (.iinc 3 1, 3) := by decide +kernel
theorem dX0_firstWork_53 : decode cX0_firstWork 53 = .ok (.goto (-51), 3) := by decide +kernel
theorem dX0_firstWork_56 : decode cX0_firstWork 56 = .ok (.bipush (-9), 2) := by decide +kernel
theorem dX0_firstWork_58 : decode cX0_firstWork 58 = .ok (.ireturn, 1) := by decide +kernel
theorem dX1_init_0 : decode cX1_init 0 = .ok (.aload_n 0, 1) := by decide +kernel
theorem dX1_init_1 : decode cX1_init 1 = .ok (.invokespecial 3, 3) := by decide +kernel
theorem dX1_init_4 : decode cX1_init 4 = .ok (.aload_n 0, 1) := by decide +kernel
theorem dX1_init_5 : decode cX1_init 5 = .ok (.bipush 6, 2) := by decide +kernel
theorem dX1_init_7 : decode cX1_init 7 = .ok (.newarray .int, 2) := by decide +kernel
theorem dX1_init_9 : decode cX1_init 9 = .ok (.putfield 9, 3) := by decide +kernel
theorem dX1_init_12 : decode cX1_init 12 = .ok (.aload_n 0, 1) := by decide +kernel
theorem dX1_init_13 : decode cX1_init 13 = .ok (.bipush 6, 2) := by decide +kernel
theorem dX1_init_15 : decode cX1_init 15 = .ok (.newarray .int, 2) := by decide +kernel
theorem dX1_init_17 : decode cX1_init 17 = .ok (.putfield 15, 3) := by decide +kernel
theorem dX1_init_20 : decode cX1_init 20 = .ok (.aload_n 0, 1) := by decide +kernel
theorem dX1_init_21 : decode cX1_init 21 = .ok (.bipush 6, 2) := by decide +kernel
theorem dX1_init_23 : decode cX1_init 23 = .ok (.newarray .int, 2) := by decide +kernel
theorem dX1_init_25 : decode cX1_init 25 = .ok (.putfield 18, 3) := by decide +kernel
theorem dX1_init_28 : decode cX1_init 28 = .ok (.return_, 1) := by decide +kernel
set_option maxRecDepth 20000 in
theorem ggX1_begin_X6_bit : GoodIn wsX1_begin wsX6_bit := goodIn_r _ [8] (by decide +kernel) (by decide +kernel)
set_option maxRecDepth 20000 in
theorem gX1_begin_X6_bit_n34 : GoodIn wsX1_begin (wsX6_bit) := ggX1_begin_X6_bit
theorem dX1_begin_0 : decode cX1_begin 0 = .ok (.aload_n 0, 1) := by decide +kernel
theorem dX1_begin_1 : decode cX1_begin 1 = .ok (.iconst 0, 1) := by decide +kernel
theorem dX1_begin_2 : decode cX1_begin 2 = .ok (.putfield 21, 3) := by decide +kernel
theorem dX1_begin_5 : decode cX1_begin 5 = .ok (.aload_n 0, 1) := by decide +kernel
theorem dX1_begin_6 : decode cX1_begin 6 = .ok (.iconst 0, 1) := by decide +kernel
theorem dX1_begin_7 : decode cX1_begin 7 = .ok (.putfield 25, 3) := by decide +kernel
theorem dX1_begin_10 : decode cX1_begin 10 = .ok (.aload_n 0, 1) := by decide +kernel
theorem dX1_begin_11 : decode cX1_begin 11 = .ok (.iconst 0, 1) := by decide +kernel
theorem dX1_begin_12 : decode cX1_begin 12 = .ok (.putfield 28, 3) := by decide +kernel
theorem dX1_begin_15 : decode cX1_begin 15 = .ok (.iconst 0, 1) := by decide +kernel
theorem dX1_begin_16 : decode cX1_begin 16 = .ok (.istore_n 2, 1) := by decide +kernel
theorem dX1_begin_17 : decode cX1_begin 17 = .ok (.iload_n 2, 1) := by decide +kernel
theorem dX1_begin_18 : decode cX1_begin 18 = .ok (.bipush 6, 2) := by decide +kernel
theorem dX1_begin_20 : decode cX1_begin 20 = .ok (.if_icmp .ge 31, 3) := by decide +kernel
theorem dX1_begin_23 : decode cX1_begin 23 = .ok (.aload_n 0, 1) := by decide +kernel
theorem dX1_begin_24 : decode cX1_begin 24 = .ok (.getfield 9, 3) := by decide +kernel
theorem dX1_begin_27 : decode cX1_begin 27 = .ok (.iload_n 2, 1) := by decide +kernel
theorem dX1_begin_28 : decode cX1_begin 28 = .ok (.aload_n 1, 1) := by decide +kernel
theorem dX1_begin_29 : decode cX1_begin 29 = .ok (.getfield 31, 3) := by decide +kernel
theorem dX1_begin_32 : decode cX1_begin 32 = .ok (.iload_n 2, 1) := by decide +kernel
theorem dX1_begin_33 : decode cX1_begin 33 = .ok (.iaload, 1) := by decide +kernel
theorem dX1_begin_34 : decode cX1_begin 34 = .ok (.iastore, 1) := by decide +kernel
theorem dX1_begin_35 : decode cX1_begin 35 = .ok (.aload_n 0, 1) := by decide +kernel
theorem dX1_begin_36 : decode cX1_begin 36 = .ok (.getfield 15, 3) := by decide +kernel
theorem dX1_begin_39 : decode cX1_begin 39 = .ok (.iload_n 2, 1) := by decide +kernel
theorem dX1_begin_40 : decode cX1_begin 40 = .ok (.iload_n 2, 1) := by decide +kernel
theorem dX1_begin_41 : decode cX1_begin 41 = .ok (.invokestatic 34, 3) := by decide +kernel
theorem dX1_begin_44 : decode cX1_begin 44 = .ok (.iastore, 1) := by decide +kernel
theorem dX1_begin_45 : decode cX1_begin 45 = .ok (.iinc 2 1, 3) := by decide +kernel
theorem dX1_begin_48 : decode cX1_begin 48 = .ok (.goto (-31), 3) := by decide +kernel
theorem dX1_begin_51 : decode cX1_begin 51 = .ok (.return_, 1) := by decide +kernel
theorem dX1_become_0 : decode cX1_become 0 = .ok (.aload_n 0, 1) := by decide +kernel
theorem dX1_become_1 : decode cX1_become 1 = .ok (.aload_n 1, 1) := by decide +kernel
theorem dX1_become_2 : decode cX1_become 2 = .ok (.getfield 21, 3) := by decide +kernel
theorem dX1_become_5 : decode cX1_become 5 = .ok (.putfield 21, 3) := by decide +kernel
theorem dX1_become_8 : decode cX1_become 8 = .ok (.aload_n 0, 1) := by decide +kernel
theorem dX1_become_9 : decode cX1_become 9 = .ok (.aload_n 1, 1) := by decide +kernel
theorem dX1_become_10 : decode cX1_become 10 = .ok (.getfield 25, 3) := by decide +kernel
theorem dX1_become_13 : decode cX1_become 13 = .ok (.putfield 25, 3) := by decide +kernel
theorem dX1_become_16 : decode cX1_become 16 = .ok (.aload_n 0, 1) := by decide +kernel
theorem dX1_become_17 : decode cX1_become 17 = .ok (.aload_n 1, 1) := by decide +kernel
theorem dX1_become_18 : decode cX1_become 18 = .ok (.getfield 28, 3) := by decide +kernel
theorem dX1_become_21 : decode cX1_become 21 = .ok (.putfield 28, 3) := by decide +kernel
theorem dX1_become_24 : decode cX1_become 24 = .ok (.aload_n 1, 1) := by decide +kernel
theorem dX1_become_25 : decode cX1_become 25 = .ok (.getfield 9, 3) := by decide +kernel
theorem dX1_become_28 : decode cX1_become 28 = .ok (.iconst 0, 1) := by decide +kernel
theorem dX1_become_29 : decode cX1_become 29 = .ok (.aload_n 0, 1) := by decide +kernel
theorem dX1_become_30 : decode cX1_become 30 = .ok (.getfield 9, 3) := by decide +kernel
theorem dX1_become_33 : decode cX1_become 33 = .ok (.iconst 0, 1) := by decide +kernel
theorem dX1_become_34 : decode cX1_become 34 = .ok (.bipush 6, 2) := by decide +kernel
theorem dX1_become_36 : decode cX1_become 36 = .ok (.invokestatic 38, 3) := by decide +kernel
theorem dX1_become_39 : decode cX1_become 39 = .ok (.aload_n 1, 1) := by decide +kernel
theorem dX1_become_40 : decode cX1_become 40 = .ok (.getfield 15, 3) := by decide +kernel
theorem dX1_become_43 : decode cX1_become 43 = .ok (.iconst 0, 1) := by decide +kernel
theorem dX1_become_44 : decode cX1_become 44 = .ok (.aload_n 0, 1) := by decide +kernel
theorem dX1_become_45 : decode cX1_become 45 = .ok (.getfield 15, 3) := by decide +kernel
theorem dX1_become_48 : decode cX1_become 48 = .ok (.iconst 0, 1) := by decide +kernel
theorem dX1_become_49 : decode cX1_become 49 = .ok (.bipush 6, 2) := by decide +kernel
theorem dX1_become_51 : decode cX1_become 51 = .ok (.invokestatic 38, 3) := by decide +kernel
theorem dX1_become_54 : decode cX1_become 54 = .ok (.aload_n 1, 1) := by decide +kernel
theorem dX1_become_55 : decode cX1_become 55 = .ok (.getfield 18, 3) := by decide +kernel
theorem dX1_become_58 : decode cX1_become 58 = .ok (.iconst 0, 1) := by decide +kernel
theorem dX1_become_59 : decode cX1_become 59 = .ok (.aload_n 0, 1) := by decide +kernel
theorem dX1_become_60 : decode cX1_become 60 = .ok (.getfield 18, 3) := by decide +kernel
theorem dX1_become_63 : decode cX1_become 63 = .ok (.iconst 0, 1) := by decide +kernel
theorem dX1_become_64 : decode cX1_become 64 = .ok (.bipush 6, 2) := by decide +kernel
theorem dX1_become_66 : decode cX1_become 66 = .ok (.invokestatic 38, 3) := by decide +kernel
theorem dX1_become_69 : decode cX1_become 69 = .ok (.return_, 1) := by decide +kernel
set_option maxRecDepth 20000 in
theorem ggX1_ageOfRoom_X1_ageTogether : GoodIn wsX1_ageOfRoom wsX1_ageTogether := goodIn_r _ [6, 7, 8, 9, 10, 11, 12, 13, 14, 15, 16, 17, 18, 19] (by decide +kernel) (by decide +kernel)
set_option maxRecDepth 20000 in
theorem gX1_ageOfRoom_X1_ageTogether : GoodIn wsX1_ageOfRoom (wsV RX1 44 RX1 yX1_ageTogether wsX1_ageTogether) := goodIn_app (goodIn_of _ (by decide +kernel)) ggX1_ageOfRoom_X1_ageTogether
theorem dX1_ageOfRoom_0 : decode cX1_ageOfRoom 0 = .ok (.aload_n 0, 1) := by decide +kernel
theorem dX1_ageOfRoom_1 : decode cX1_ageOfRoom 1 = .ok (.aload_n 0, 1) := by decide +kernel
theorem dX1_ageOfRoom_2 : decode cX1_ageOfRoom 2 = .ok (.getfield 15, 3) := by decide +kernel
theorem dX1_ageOfRoom_5 : decode cX1_ageOfRoom 5 = .ok (.iload_n 1, 1) := by decide +kernel
theorem dX1_ageOfRoom_6 : decode cX1_ageOfRoom 6 = .ok (.iaload, 1) := by decide +kernel
theorem dX1_ageOfRoom_7 : decode cX1_ageOfRoom 7 = .ok (.invokevirtual 44, 3) := by decide +kernel
theorem dX1_ageOfRoom_10 : decode cX1_ageOfRoom 10 = .ok (.ireturn, 1) := by decide +kernel
set_option maxRecDepth 20000 in
theorem ggX1_ageTogether_X6_has : GoodIn wsX1_ageTogether wsX6_has := goodIn_r _ [4, 5, 6, 3, 7] (by decide +kernel) (by decide +kernel)
set_option maxRecDepth 20000 in
theorem gX1_ageTogether_X6_has_n47 : GoodIn wsX1_ageTogether (wsX6_has) := ggX1_ageTogether_X6_has
theorem dX1_ageTogether_0 : decode cX1_ageTogether 0 = .ok (.iconst 0, 1) := by decide +kernel
theorem dX1_ageTogether_1 : decode cX1_ageTogether 1 = .ok (.istore_n 2, 1) := by decide +kernel
theorem dX1_ageTogether_2 : decode cX1_ageTogether 2 = .ok (.iconst 0, 1) := by decide +kernel
theorem dX1_ageTogether_3 : decode cX1_ageTogether 3 = .ok (.istore_n 3, 1) := by decide +kernel
theorem dX1_ageTogether_4 : decode cX1_ageTogether 4 = .ok (.iconst 0, 1) := by decide +kernel
theorem dX1_ageTogether_5 : decode cX1_ageTogether 5 = .ok (.istore 4, 2) := by decide +kernel
theorem dX1_ageTogether_7 : decode cX1_ageTogether 7 = .ok (.iload 4, 2) := by decide +kernel
theorem dX1_ageTogether_9 : decode cX1_ageTogether 9 = .ok (.bipush 6, 2) := by decide +kernel
theorem dX1_ageTogether_11 : decode cX1_ageTogether 11 = .ok (.if_icmp .ge 31, 3) := by decide +kernel
theorem dX1_ageTogether_14 : decode cX1_ageTogether 14 = .ok (.iload_n 1, 1) := by decide +kernel
theorem dX1_ageTogether_15 : decode cX1_ageTogether 15 = .ok (.iload 4, 2) := by decide +kernel
theorem dX1_ageTogether_17 : decode cX1_ageTogether 17 = .ok (.invokestatic 47, 3) := by decide +kernel
theorem dX1_ageTogether_20 : decode cX1_ageTogether 20 = .ok (.ifCond .eq 16, 3) := by decide +kernel
theorem dX1_ageTogether_23 : decode cX1_ageTogether 23 = .ok (.iload_n 2, 1) := by decide +kernel
theorem dX1_ageTogether_24 : decode cX1_ageTogether 24 = .ok (.aload_n 0, 1) := by decide +kernel
theorem dX1_ageTogether_25 : decode cX1_ageTogether 25 = .ok (.getfield 9, 3) := by decide +kernel
theorem dX1_ageTogether_28 : decode cX1_ageTogether 28 = .ok (.iload 4, 2) := by decide +kernel
theorem dX1_ageTogether_30 : decode cX1_ageTogether 30 = .ok (.iaload, 1) := by decide +kernel
theorem dX1_ageTogether_31 : decode cX1_ageTogether 31 = .ok (.iadd, 1) := by decide +kernel
theorem dX1_ageTogether_32 : decode cX1_ageTogether 32 = .ok (.istore_n 2, 1) := by decide +kernel
theorem dX1_ageTogether_33 : decode cX1_ageTogether 33 = .ok (.iinc 3 1, 3) := by decide +kernel
theorem dX1_ageTogether_36 : decode cX1_ageTogether 36 = .ok (.iinc 4 1, 3) := by decide +kernel
theorem dX1_ageTogether_39 : decode cX1_ageTogether 39 = .ok (.goto (-32), 3) := by decide +kernel
theorem dX1_ageTogether_42 : decode cX1_ageTogether 42 = .ok (.iload_n 3, 1) := by decide +kernel
theorem dX1_ageTogether_43 : decode cX1_ageTogether 43 = .ok (.ifCond .ne 7, 3) := by decide +kernel
theorem dX1_ageTogether_46 : decode cX1_ageTogether 46 = .ok (.iconst 0, 1) := by decide +kernel
theorem dX1_ageTogether_47 : decode cX1_ageTogether 47 = .ok (.goto 6, 3) := by decide +kernel
theorem dX1_ageTogether_50 : decode cX1_ageTogether 50 = .ok (.iload_n 2, 1) := by decide +kernel
theorem dX1_ageTogether_51 : decode cX1_ageTogether 51 = .ok (.iload_n 3, 1) := by decide +kernel
theorem dX1_ageTogether_52 : decode cX1_ageTogether 52 = .ok (.idiv, 1) := by decide +kernel
theorem dX1_ageTogether_53 : decode cX1_ageTogether 53 = .ok (.ireturn, 1) := by decide +kernel
set_option maxRecDepth 20000 in
theorem ggX1_bear_X1_ageOfRoom : GoodIn wsX1_bear wsX1_ageOfRoom := goodIn_r _ [8, 9, 10, 11, 12, 7, 13, 14, 15, 16, 17, 18, 19, 20, 21, 22, 23, 24, 25, 26] (by decide +kernel) (by decide +kernel)
set_option maxRecDepth 20000 in
theorem gX1_bear_X1_ageOfRoom : GoodIn wsX1_bear (wsV RX1 51 RX1 yX1_ageOfRoom wsX1_ageOfRoom) := goodIn_app (goodIn_of _ (by decide +kernel)) ggX1_bear_X1_ageOfRoom
set_option maxRecDepth 20000 in
theorem ggX1_bear_X6_bit : GoodIn wsX1_bear wsX6_bit := goodIn_r _ [20] (by decide +kernel) (by decide +kernel)
set_option maxRecDepth 20000 in
theorem gX1_bear_X6_bit_n34 : GoodIn wsX1_bear (wsX6_bit) := ggX1_bear_X6_bit
theorem dX1_bear_0 : decode cX1_bear 0 = .ok (.aload_n 0, 1) := by decide +kernel
theorem dX1_bear_1 : decode cX1_bear 1 = .ok (.getfield 18, 3) := by decide +kernel
theorem dX1_bear_4 : decode cX1_bear 4 = .ok (.iload_n 1, 1) := by decide +kernel
theorem dX1_bear_5 : decode cX1_bear 5 = .ok (.aload_n 0, 1) := by decide +kernel
theorem dX1_bear_6 : decode cX1_bear 6 = .ok (.iload_n 2, 1) := by decide +kernel
theorem dX1_bear_7 : decode cX1_bear 7 = .ok (.invokevirtual 51, 3) := by decide +kernel
theorem dX1_bear_10 : decode cX1_bear 10 = .ok (.iastore, 1) := by decide +kernel
theorem dX1_bear_11 : decode cX1_bear 11 = .ok (.aload_n 0, 1) := by decide +kernel
theorem dX1_bear_12 : decode cX1_bear 12 = .ok (.dup, 1) := by decide +kernel
theorem dX1_bear_13 : decode cX1_bear 13 = .ok (.getfield 25, 3) := by decide +kernel
theorem dX1_bear_16 : decode cX1_bear 16 = .ok (.iload_n 1, 1) := by decide +kernel
theorem dX1_bear_17 : decode cX1_bear 17 = .ok (.invokestatic 34, 3) := by decide +kernel
theorem dX1_bear_20 : decode cX1_bear 20 = .ok (.ior, 1) := by decide +kernel
theorem dX1_bear_21 : decode cX1_bear 21 = .ok (.putfield 25, 3) := by decide +kernel
theorem dX1_bear_24 : decode cX1_bear 24 = .ok (.aload_n 0, 1) := by decide +kernel
theorem dX1_bear_25 : decode cX1_bear 25 = .ok (.getfield 18, 3) := by decide +kernel
theorem dX1_bear_28 : decode cX1_bear 28 = .ok (.iload_n 1, 1) := by decide +kernel
theorem dX1_bear_29 : decode cX1_bear 29 = .ok (.iaload, 1) := by decide +kernel
theorem dX1_bear_30 : decode cX1_bear 30 = .ok (.iload_n 3, 1) := by decide +kernel
theorem dX1_bear_31 : decode cX1_bear 31 = .ok (.if_icmp .ge 16, 3) := by decide +kernel
theorem dX1_bear_34 : decode cX1_bear 34 = .ok (.aload_n 0, 1) := by decide +kernel
theorem dX1_bear_35 : decode cX1_bear 35 = .ok (.dup, 1) := by decide +kernel
theorem dX1_bear_36 : decode cX1_bear 36 = .ok (.getfield 28, 3) := by decide +kernel
theorem dX1_bear_39 : decode cX1_bear 39 = .ok (.iload_n 1, 1) := by decide +kernel
theorem dX1_bear_40 : decode cX1_bear 40 = .ok (.invokestatic 34, 3) := by decide +kernel
theorem dX1_bear_43 : decode cX1_bear 43 = .ok (.ior, 1) := by decide +kernel
theorem dX1_bear_44 : decode cX1_bear 44 = .ok (.putfield 28, 3) := by decide +kernel
theorem dX1_bear_47 : decode cX1_bear 47 = .ok (.aload_n 0, 1) := by decide +kernel
theorem dX1_bear_48 : decode cX1_bear 48 = .ok (.getfield 18, 3) := by decide +kernel
theorem dX1_bear_51 : decode cX1_bear 51 = .ok (.iload_n 1, 1) := by decide +kernel
theorem dX1_bear_52 : decode cX1_bear 52 = .ok (.iaload, 1) := by decide +kernel
theorem dX1_bear_53 : decode cX1_bear 53 = .ok (.ireturn, 1) := by decide +kernel
set_option maxRecDepth 20000 in
theorem ggX1_passYear_X6_has : GoodIn wsX1_passYear wsX6_has := goodIn_r _ [7, 8, 9, 6, 10] (by decide +kernel) (by decide +kernel)
set_option maxRecDepth 20000 in
theorem gX1_passYear_X6_has_n47 : GoodIn wsX1_passYear (wsX6_has) := ggX1_passYear_X6_has
set_option maxRecDepth 20000 in
theorem ggX1_passYear_X6_bit : GoodIn wsX1_passYear wsX6_bit := goodIn_r _ [10] (by decide +kernel) (by decide +kernel)
set_option maxRecDepth 20000 in
theorem gX1_passYear_X6_bit_n34 : GoodIn wsX1_passYear (wsX6_bit) := ggX1_passYear_X6_bit
theorem dX1_passYear_0 : decode cX1_passYear 0 = .ok (.aload_n 0, 1) := by decide +kernel
theorem dX1_passYear_1 : decode cX1_passYear 1 = .ok (.dup, 1) := by decide +kernel
theorem dX1_passYear_2 : decode cX1_passYear 2 = .ok (.getfield 21, 3) := by decide +kernel
theorem dX1_passYear_5 : decode cX1_passYear 5 = .ok (.iconst 1, 1) := by decide +kernel
theorem dX1_passYear_6 : decode cX1_passYear 6 = .ok (.iadd, 1) := by decide +kernel
theorem dX1_passYear_7 : decode cX1_passYear 7 = .ok (.putfield 21, 3) := by decide +kernel
theorem dX1_passYear_10 : decode cX1_passYear 10 = .ok (.iconst 0, 1) := by decide +kernel
theorem dX1_passYear_11 : decode cX1_passYear 11 = .ok (.istore_n 2, 1) := by decide +kernel
theorem dX1_passYear_12 : decode cX1_passYear 12 = .ok (.iload_n 2, 1) := by decide +kernel
theorem dX1_passYear_13 : decode cX1_passYear 13 = .ok (.aload_n 1, 1) := by decide +kernel
theorem dX1_passYear_14 : decode cX1_passYear 14 = .ok (.getfield 54, 3) := by decide +kernel
theorem dX1_passYear_17 : decode cX1_passYear 17 = .ok (.if_icmp .ge 19, 3) := by decide +kernel
theorem dX1_passYear_20 : decode cX1_passYear 20 = .ok (.aload_n 0, 1) := by decide +kernel
theorem dX1_passYear_21 : decode cX1_passYear 21 = .ok (.getfield 9, 3) := by decide +kernel
theorem dX1_passYear_24 : decode cX1_passYear 24 = .ok (.iload_n 2, 1) := by decide +kernel
theorem dX1_passYear_25 : decode cX1_passYear 25 = .ok (.dup2, 1) := by decide +kernel
theorem dX1_passYear_26 : decode cX1_passYear 26 = .ok (.iaload, 1) := by decide +kernel
theorem dX1_passYear_27 : decode cX1_passYear 27 = .ok (.iconst 1, 1) := by decide +kernel
theorem dX1_passYear_28 : decode cX1_passYear 28 = .ok (.iadd, 1) := by decide +kernel
theorem dX1_passYear_29 : decode cX1_passYear 29 = .ok (.iastore, 1) := by decide +kernel
theorem dX1_passYear_30 : decode cX1_passYear 30 = .ok (.iinc 2 1, 3) := by decide +kernel
theorem dX1_passYear_33 : decode cX1_passYear 33 = .ok (.goto (-21), 3) := by decide +kernel
theorem dX1_passYear_36 : decode cX1_passYear 36 = .ok (.iconst 0, 1) := by decide +kernel
theorem dX1_passYear_37 : decode cX1_passYear 37 = .ok (.istore_n 2, 1) := by decide +kernel
theorem dX1_passYear_38 : decode cX1_passYear 38 = .ok (.iconst 0, 1) := by decide +kernel
theorem dX1_passYear_39 : decode cX1_passYear 39 = .ok (.istore_n 3, 1) := by decide +kernel
theorem dX1_passYear_40 : decode cX1_passYear 40 = .ok (.iload_n 3, 1) := by decide +kernel
theorem dX1_passYear_41 : decode cX1_passYear 41 = .ok (.aload_n 1, 1) := by decide +kernel
theorem dX1_passYear_42 : decode cX1_passYear 42 = .ok (.getfield 57, 3) := by decide +kernel
theorem dX1_passYear_45 : decode cX1_passYear 45 = .ok (.if_icmp .ge 61, 3) := by decide +kernel
theorem dX1_passYear_48 : decode cX1_passYear 48 = .ok (.aload_n 0, 1) := by decide +kernel
theorem dX1_passYear_49 : decode cX1_passYear 49 = .ok (.getfield 28, 3) := by decide +kernel
theorem dX1_passYear_52 : decode cX1_passYear 52 = .ok (.iload_n 3, 1) := by decide +kernel
theorem dX1_passYear_53 : decode cX1_passYear 53 = .ok (.invokestatic 47, 3) := by decide +kernel
theorem dX1_passYear_56 : decode cX1_passYear 56 = .ok (.ifCond .eq 44, 3) := by decide +kernel
theorem dX1_passYear_59 : decode cX1_passYear 59 = .ok (.aload_n 0, 1) := by decide +kernel
theorem dX1_passYear_60 : decode cX1_passYear 60 = .ok (.getfield 18, 3) := by decide +kernel
theorem dX1_passYear_63 : decode cX1_passYear 63 = .ok (.iload_n 3, 1) := by decide +kernel
theorem dX1_passYear_64 : decode cX1_passYear 64 = .ok (.dup2, 1) := by decide +kernel
theorem dX1_passYear_65 : decode cX1_passYear 65 = .ok (.iaload, 1) := by decide +kernel
theorem dX1_passYear_66 : decode cX1_passYear 66 = .ok (.iconst 1, 1) := by decide +kernel
theorem dX1_passYear_67 : decode cX1_passYear 67 = .ok (.iadd, 1) := by decide +kernel
theorem dX1_passYear_68 : decode cX1_passYear 68 = .ok (.iastore, 1) := by decide +kernel
theorem dX1_passYear_69 : decode cX1_passYear 69 = .ok (.aload_n 0, 1) := by decide +kernel
theorem dX1_passYear_70 : decode cX1_passYear 70 = .ok (.getfield 18, 3) := by decide +kernel
theorem dX1_passYear_73 : decode cX1_passYear 73 = .ok (.iload_n 3, 1) := by decide +kernel
theorem dX1_passYear_74 : decode cX1_passYear 74 = .ok (.iaload, 1) := by decide +kernel
theorem dX1_passYear_75 : decode cX1_passYear 75 = .ok (.aload_n 1, 1) := by decide +kernel
theorem dX1_passYear_76 : decode cX1_passYear 76 = .ok (.getfield 60, 3) := by decide +kernel
theorem dX1_passYear_79 : decode cX1_passYear 79 = .ok (.if_icmp .lt 21, 3) := by decide +kernel
theorem dX1_passYear_82 : decode cX1_passYear 82 = .ok (.aload_n 0, 1) := by decide +kernel
theorem dX1_passYear_83 : decode cX1_passYear 83 = .ok (.dup, 1) := by decide +kernel
theorem dX1_passYear_84 : decode cX1_passYear 84 = .ok (.getfield 28, 3) := by decide +kernel
theorem dX1_passYear_87 : decode cX1_passYear 87 = .ok (.iload_n 3, 1) := by decide +kernel
theorem dX1_passYear_88 : decode cX1_passYear 88 = .ok (.invokestatic 34, 3) := by decide +kernel
theorem dX1_passYear_91 : decode cX1_passYear 91 = .ok (.iconst (-1), 1) := by decide +kernel
theorem dX1_passYear_92 : decode cX1_passYear 92 = .ok (.ixor, 1) := by decide +kernel
theorem dX1_passYear_93 : decode cX1_passYear 93 = .ok (.iand, 1) := by decide +kernel
theorem dX1_passYear_94 : decode cX1_passYear 94 = .ok (.putfield 28, 3) := by decide +kernel
theorem dX1_passYear_97 : decode cX1_passYear 97 = .ok (.iinc 2 1, 3) := by decide +kernel
theorem dX1_passYear_100 : decode cX1_passYear 100 = .ok (.iinc 3 1, 3) := by decide +kernel
theorem dX1_passYear_103 : decode cX1_passYear 103 = .ok (.goto (-63), 3) := by decide +kernel
theorem dX1_passYear_106 : decode cX1_passYear 106 = .ok (.iload_n 2, 1) := by decide +kernel
theorem dX1_passYear_107 : decode cX1_passYear 107 = .ok (.ireturn, 1) := by decide +kernel
set_option maxRecDepth 20000 in
theorem ggX1_knockThrough_X6_has : GoodIn wsX1_knockThrough wsX6_has := goodIn_r _ [4, 5, 6, 3, 7] (by decide +kernel) (by decide +kernel)
set_option maxRecDepth 20000 in
theorem gX1_knockThrough_X6_has_n47 : GoodIn wsX1_knockThrough (wsX6_has) := ggX1_knockThrough_X6_has
theorem dX1_knockThrough_0 : decode cX1_knockThrough 0 = .ok (.aload_n 0, 1) := by decide +kernel
theorem dX1_knockThrough_1 : decode cX1_knockThrough 1 = .ok (.getfield 15, 3) := by decide +kernel
theorem dX1_knockThrough_4 : decode cX1_knockThrough 4 = .ok (.iload_n 1, 1) := by decide +kernel
theorem dX1_knockThrough_5 : decode cX1_knockThrough 5 = .ok (.iaload, 1) := by decide +kernel
theorem dX1_knockThrough_6 : decode cX1_knockThrough 6 = .ok (.aload_n 0, 1) := by decide +kernel
theorem dX1_knockThrough_7 : decode cX1_knockThrough 7 = .ok (.getfield 15, 3) := by decide +kernel
theorem dX1_knockThrough_10 : decode cX1_knockThrough 10 = .ok (.iload_n 2, 1) := by decide +kernel
theorem dX1_knockThrough_11 : decode cX1_knockThrough 11 = .ok (.iaload, 1) := by decide +kernel
theorem dX1_knockThrough_12 : decode cX1_knockThrough 12 = .ok (.ior, 1) := by decide +kernel
theorem dX1_knockThrough_13 : decode cX1_knockThrough 13 = .ok (.istore_n 3, 1) := by decide +kernel
theorem dX1_knockThrough_14 : decode cX1_knockThrough 14 = .ok (.iconst 0, 1) := by decide +kernel
theorem dX1_knockThrough_15 : decode cX1_knockThrough 15 = .ok (.istore 4, 2) := by decide +kernel
theorem dX1_knockThrough_17 : decode cX1_knockThrough 17 = .ok (.iload 4, 2) := by decide +kernel
theorem dX1_knockThrough_19 : decode cX1_knockThrough 19 = .ok (.bipush 6, 2) := by decide +kernel
theorem dX1_knockThrough_21 : decode cX1_knockThrough 21 = .ok (.if_icmp .ge 26, 3) := by decide +kernel
theorem dX1_knockThrough_24 : decode cX1_knockThrough 24 = .ok (.iload_n 3, 1) := by decide +kernel
theorem dX1_knockThrough_25 : decode cX1_knockThrough 25 = .ok (.iload 4, 2) := by decide +kernel
theorem dX1_knockThrough_27 : decode cX1_knockThrough 27 = .ok (.invokestatic 47, 3) := by decide +kernel
theorem dX1_knockThrough_30 : decode cX1_knockThrough 30 = .ok (.ifCond .eq 11, 3) := by decide +kernel
theorem dX1_knockThrough_33 : decode cX1_knockThrough 33 = .ok (.aload_n 0, 1) := by decide +kernel
theorem dX1_knockThrough_34 : decode cX1_knockThrough 34 = .ok (.getfield 15, 3) := by decide +kernel
theorem dX1_knockThrough_37 : decode cX1_knockThrough 37 = .ok (.iload 4, 2) := by decide +kernel
theorem dX1_knockThrough_39 : decode cX1_knockThrough 39 = .ok (.iload_n 3, 1) := by decide +kernel
theorem dX1_knockThrough_40 : decode cX1_knockThrough 40 = .ok (.iastore, 1) := by decide +kernel
theorem dX1_knockThrough_41 : decode cX1_knockThrough 41 = .ok (.iinc 4 1, 3) := by decide +kernel
theorem dX1_knockThrough_44 : decode cX1_knockThrough 44 = .ok (.goto (-27), 3) := by decide +kernel
theorem dX1_knockThrough_47 : decode cX1_knockThrough 47 = .ok (.return_, 1) := by decide +kernel
set_option maxRecDepth 20000 in
theorem ggX1_buildAnew_X6_bit : GoodIn wsX1_buildAnew wsX6_bit := goodIn_r _ [5] (by decide +kernel) (by decide +kernel)
set_option maxRecDepth 20000 in
theorem gX1_buildAnew_X6_bit_n34 : GoodIn wsX1_buildAnew (wsX6_bit) := ggX1_buildAnew_X6_bit
theorem dX1_buildAnew_0 : decode cX1_buildAnew 0 = .ok (.iconst 0, 1) := by decide +kernel
theorem dX1_buildAnew_1 : decode cX1_buildAnew 1 = .ok (.istore_n 2, 1) := by decide +kernel
theorem dX1_buildAnew_2 : decode cX1_buildAnew 2 = .ok (.iload_n 2, 1) := by decide +kernel
theorem dX1_buildAnew_3 : decode cX1_buildAnew 3 = .ok (.bipush 6, 2) := by decide +kernel
theorem dX1_buildAnew_5 : decode cX1_buildAnew 5 = .ok (.if_icmp .ge 24, 3) := by decide +kernel
theorem dX1_buildAnew_8 : decode cX1_buildAnew 8 = .ok (.aload_n 0, 1) := by decide +kernel
theorem dX1_buildAnew_9 : decode cX1_buildAnew 9 = .ok (.getfield 15, 3) := by decide +kernel
theorem dX1_buildAnew_12 : decode cX1_buildAnew 12 = .ok (.iload_n 2, 1) := by decide +kernel
theorem dX1_buildAnew_13 : decode cX1_buildAnew 13 = .ok (.dup2, 1) := by decide +kernel
theorem dX1_buildAnew_14 : decode cX1_buildAnew 14 = .ok (.iaload, 1) := by decide +kernel
theorem dX1_buildAnew_15 : decode cX1_buildAnew 15 = .ok (.iload_n 1, 1) := by decide +kernel
theorem dX1_buildAnew_16 : decode cX1_buildAnew 16 = .ok (.invokestatic 34, 3) := by decide +kernel
theorem dX1_buildAnew_19 : decode cX1_buildAnew 19 = .ok (.iconst (-1), 1) := by decide +kernel
theorem dX1_buildAnew_20 : decode cX1_buildAnew 20 = .ok (.ixor, 1) := by decide +kernel
theorem dX1_buildAnew_21 : decode cX1_buildAnew 21 = .ok (.iand, 1) := by decide +kernel
theorem dX1_buildAnew_22 : decode cX1_buildAnew 22 = .ok (.iastore, 1) := by decide +kernel
theorem dX1_buildAnew_23 : decode cX1_buildAnew 23 = .ok (.iinc 2 1, 3) := by decide +kernel
theorem dX1_buildAnew_26 : decode cX1_buildAnew 26 = .ok (.goto (-24), 3) := by decide +kernel
theorem dX1_buildAnew_29 : decode cX1_buildAnew 29 = .ok (.aload_n 0, 1) := by decide +kernel
theorem dX1_buildAnew_30 : decode cX1_buildAnew 30 = .ok (.getfield 15, 3) := by decide +kernel
theorem dX1_buildAnew_33 : decode cX1_buildAnew 33 = .ok (.iload_n 1, 1) := by decide +kernel
theorem dX1_buildAnew_34 : decode cX1_buildAnew 34 = .ok (.iload_n 1, 1) := by decide +kernel
theorem dX1_buildAnew_35 : decode cX1_buildAnew 35 = .ok (.invokestatic 34, 3) := by decide +kernel
theorem dX1_buildAnew_38 : decode cX1_buildAnew 38 = .ok (.iastore, 1) := by decide +kernel
theorem dX1_buildAnew_39 : decode cX1_buildAnew 39 = .ok (.aload_n 0, 1) := by decide +kernel
theorem dX1_buildAnew_40 : decode cX1_buildAnew 40 = .ok (.getfield 9, 3) := by decide +kernel
theorem dX1_buildAnew_43 : decode cX1_buildAnew 43 = .ok (.iload_n 1, 1) := by decide +kernel
theorem dX1_buildAnew_44 : decode cX1_buildAnew 44 = .ok (.iconst 0, 1) := by decide +kernel
theorem dX1_buildAnew_45 : decode cX1_buildAnew 45 = .ok (.iastore, 1) := by decide +kernel
theorem dX1_buildAnew_46 : decode cX1_buildAnew 46 = .ok (.return_, 1) := by decide +kernel
set_option maxRecDepth 20000 in
theorem ggX1_howManyAheadOf_X6_has : GoodIn wsX1_howManyAheadOf wsX6_has := goodIn_r _ [5, 6, 7, 4, 8] (by decide +kernel) (by decide +kernel)
set_option maxRecDepth 20000 in
theorem gX1_howManyAheadOf_X6_has_n47 : GoodIn wsX1_howManyAheadOf (wsX6_has) := ggX1_howManyAheadOf_X6_has
theorem dX1_howManyAheadOf_0 : decode cX1_howManyAheadOf 0 = .ok (.iconst 0, 1) := by decide +kernel
theorem dX1_howManyAheadOf_1 : decode cX1_howManyAheadOf 1 = .ok (.istore_n 2, 1) := by decide +kernel
theorem dX1_howManyAheadOf_2 : decode cX1_howManyAheadOf 2 = .ok (.iconst 0, 1) := by decide +kernel
theorem dX1_howManyAheadOf_3 : decode cX1_howManyAheadOf 3 = .ok (.istore_n 3, 1) := by decide +kernel
theorem dX1_howManyAheadOf_4 : decode cX1_howManyAheadOf 4 = .ok (.iload_n 3, 1) := by decide +kernel
theorem dX1_howManyAheadOf_5 : decode cX1_howManyAheadOf 5 = .ok (.bipush 6, 2) := by decide +kernel
theorem dX1_howManyAheadOf_7 : decode cX1_howManyAheadOf 7 = .ok (.if_icmp .ge 70, 3) := by decide +kernel
theorem dX1_howManyAheadOf_10 : decode cX1_howManyAheadOf 10 = .ok (.aload_n 0, 1) := by decide +kernel
theorem dX1_howManyAheadOf_11 : decode cX1_howManyAheadOf 11 = .ok (.getfield 18, 3) := by decide +kernel
theorem dX1_howManyAheadOf_14 : decode cX1_howManyAheadOf 14 = .ok (.iload_n 3, 1) := by decide +kernel
theorem dX1_howManyAheadOf_15 : decode cX1_howManyAheadOf 15 = .ok (.iaload, 1) := by decide +kernel
theorem dX1_howManyAheadOf_16 : decode cX1_howManyAheadOf 16 = .ok (.aload_n 0, 1) := by decide +kernel
theorem dX1_howManyAheadOf_17 : decode cX1_howManyAheadOf 17 = .ok (.getfield 18, 3) := by decide +kernel
theorem dX1_howManyAheadOf_20 : decode cX1_howManyAheadOf 20 = .ok (.iload_n 1, 1) := by decide +kernel
theorem dX1_howManyAheadOf_21 : decode cX1_howManyAheadOf 21 = .ok (.iaload, 1) := by decide +kernel
theorem dX1_howManyAheadOf_22 : decode cX1_howManyAheadOf 22 = .ok (.if_icmp .gt 23, 3) := by decide +kernel
theorem dX1_howManyAheadOf_25 : decode cX1_howManyAheadOf 25 = .ok (.aload_n 0, 1) := by decide +kernel
theorem dX1_howManyAheadOf_26 : decode cX1_howManyAheadOf 26 = .ok (.getfield 18, 3) := by decide +kernel
theorem dX1_howManyAheadOf_29 : decode cX1_howManyAheadOf 29 = .ok (.iload_n 3, 1) := by decide +kernel
theorem dX1_howManyAheadOf_30 : decode cX1_howManyAheadOf 30 = .ok (.iaload, 1) := by decide +kernel
theorem dX1_howManyAheadOf_31 : decode cX1_howManyAheadOf 31 = .ok (.aload_n 0, 1) := by decide +kernel
theorem dX1_howManyAheadOf_32 : decode cX1_howManyAheadOf 32 = .ok (.getfield 18, 3) := by decide +kernel
theorem dX1_howManyAheadOf_35 : decode cX1_howManyAheadOf 35 = .ok (.iload_n 1, 1) := by decide +kernel
theorem dX1_howManyAheadOf_36 : decode cX1_howManyAheadOf 36 = .ok (.iaload, 1) := by decide +kernel
theorem dX1_howManyAheadOf_37 : decode cX1_howManyAheadOf 37 = .ok (.if_icmp .ne 12, 3) := by decide +kernel
theorem dX1_howManyAheadOf_40 : decode cX1_howManyAheadOf 40 = .ok (.iload_n 3, 1) := by decide +kernel
theorem dX1_howManyAheadOf_41 : decode cX1_howManyAheadOf 41 = .ok (.iload_n 1, 1) := by decide +kernel
theorem dX1_howManyAheadOf_42 : decode cX1_howManyAheadOf 42 = .ok (.if_icmp .ge 7, 3) := by decide +kernel
theorem dX1_howManyAheadOf_45 : decode cX1_howManyAheadOf 45 = .ok (.iconst 1, 1) := by decide +kernel
theorem dX1_howManyAheadOf_46 : decode cX1_howManyAheadOf 46 = .ok (.goto 4, 3) := by decide +kernel
theorem dX1_howManyAheadOf_49 : decode cX1_howManyAheadOf 49 = .ok (.iconst 0, 1) := by decide +kernel
theorem dX1_howManyAheadOf_50 : decode cX1_howManyAheadOf 50 = .ok (.istore 4, 2) := by decide +kernel
theorem dX1_howManyAheadOf_52 : decode cX1_howManyAheadOf 52 = .ok (.aload_n 0, 1) := by decide +kernel
theorem dX1_howManyAheadOf_53 : decode cX1_howManyAheadOf 53 = .ok (.getfield 28, 3) := by decide +kernel
theorem dX1_howManyAheadOf_56 : decode cX1_howManyAheadOf 56 = .ok (.iload_n 3, 1) := by decide +kernel
theorem dX1_howManyAheadOf_57 : decode cX1_howManyAheadOf 57 = .ok (.invokestatic 47, 3) := by decide +kernel
theorem dX1_howManyAheadOf_60 : decode cX1_howManyAheadOf 60 = .ok (.ifCond .eq 11, 3) := by decide +kernel
theorem dX1_howManyAheadOf_63 : decode cX1_howManyAheadOf 63 = .ok (.iload 4, 2) := by decide +kernel
theorem dX1_howManyAheadOf_65 : decode cX1_howManyAheadOf 65 = .ok (.ifCond .eq 6, 3) := by decide +kernel
theorem dX1_howManyAheadOf_68 : decode cX1_howManyAheadOf 68 = .ok (.iinc 2 1, 3) := by decide +kernel
theorem dX1_howManyAheadOf_71 : decode cX1_howManyAheadOf 71 = .ok (.iinc 3 1, 3) := by decide +kernel
theorem dX1_howManyAheadOf_74 : decode cX1_howManyAheadOf 74 = .ok (.goto (-70), 3) := by decide +kernel
theorem dX1_howManyAheadOf_77 : decode cX1_howManyAheadOf 77 = .ok (.iload_n 2, 1) := by decide +kernel
theorem dX1_howManyAheadOf_78 : decode cX1_howManyAheadOf 78 = .ok (.ireturn, 1) := by decide +kernel
set_option maxRecDepth 20000 in
theorem ggX2_init_X1_init : GoodIn wsX2_init wsX1_init := goodIn_r _ [11, 12, 2, 3, 13, 14, 15, 16, 20, 21, 22, 23, 24, 25] (by decide +kernel) (by decide +kernel)
set_option maxRecDepth 20000 in
theorem gX2_init_X1_init_n24 : GoodIn wsX2_init (wsX1_init) := ggX2_init_X1_init
theorem dX2_init_0 : decode cX2_init 0 = .ok (.aload_n 0, 1) := by decide +kernel
theorem dX2_init_1 : decode cX2_init 1 = .ok (.invokespecial 3, 3) := by decide +kernel
theorem dX2_init_4 : decode cX2_init 4 = .ok (.aload_n 0, 1) := by decide +kernel
theorem dX2_init_5 : decode cX2_init 5 = .ok (.bipush 10, 2) := by decide +kernel
theorem dX2_init_7 : decode cX2_init 7 = .ok (.anewarray 9, 3) := by decide +kernel
theorem dX2_init_10 : decode cX2_init 10 = .ok (.putfield 11, 3) := by decide +kernel
theorem dX2_init_13 : decode cX2_init 13 = .ok (.aload_n 0, 1) := by decide +kernel
theorem dX2_init_14 : decode cX2_init 14 = .ok (.iconst 0, 1) := by decide +kernel
theorem dX2_init_15 : decode cX2_init 15 = .ok (.putfield 17, 3) := by decide +kernel
theorem dX2_init_18 : decode cX2_init 18 = .ok (.aload_n 0, 1) := by decide +kernel
theorem dX2_init_19 : decode cX2_init 19 = .ok (.iconst 0, 1) := by decide +kernel
theorem dX2_init_20 : decode cX2_init 20 = .ok (.putfield 21, 3) := by decide +kernel
theorem dX2_init_23 : decode cX2_init 23 = .ok (.iconst 0, 1) := by decide +kernel
theorem dX2_init_24 : decode cX2_init 24 = .ok (.istore_n 1, 1) := by decide +kernel
theorem dX2_init_25 : decode cX2_init 25 = .ok (.iload_n 1, 1) := by decide +kernel
theorem dX2_init_26 : decode cX2_init 26 = .ok (.bipush 10, 2) := by decide +kernel
theorem dX2_init_28 : decode cX2_init 28 = .ok (.if_icmp .ge 22, 3) := by decide +kernel
theorem dX2_init_31 : decode cX2_init 31 = .ok (.aload_n 0, 1) := by decide +kernel
theorem dX2_init_32 : decode cX2_init 32 = .ok (.getfield 11, 3) := by decide +kernel
theorem dX2_init_35 : decode cX2_init 35 = .ok (.iload_n 1, 1) := by decide +kernel
theorem dX2_init_36 : decode cX2_init 36 = .ok (.new 9, 3) := by decide +kernel
theorem dX2_init_39 : decode cX2_init 39 = .ok (.dup, 1) := by decide +kernel
theorem dX2_init_40 : decode cX2_init 40 = .ok (.invokespecial 24, 3) := by decide +kernel
theorem dX2_init_43 : decode cX2_init 43 = .ok (.aastore, 1) := by decide +kernel
theorem dX2_init_44 : decode cX2_init 44 = .ok (.iinc 1 1, 3) := by decide +kernel
theorem dX2_init_47 : decode cX2_init 47 = .ok (.goto (-22), 3) := by decide +kernel
theorem dX2_init_50 : decode cX2_init 50 = .ok (.return_, 1) := by decide +kernel
set_option maxRecDepth 20000 in
theorem ggX2_remember_X1_become : GoodIn wsX2_remember wsX1_become := goodIn_r _ [11, 12, 13, 14, 15, 16, 17, 18, 19, 20, 21, 25, 26, 27, 28, 29, 30] (by decide +kernel) (by decide +kernel)
set_option maxRecDepth 20000 in
theorem gX2_remember_X1_become_n25 : GoodIn wsX2_remember (wsX1_become) := ggX2_remember_X1_become
theorem dX2_remember_0 : decode cX2_remember 0 = .ok (.aload_n 0, 1) := by decide +kernel
theorem dX2_remember_1 : decode cX2_remember 1 = .ok (.getfield 11, 3) := by decide +kernel
theorem dX2_remember_4 : decode cX2_remember 4 = .ok (.aload_n 0, 1) := by decide +kernel
theorem dX2_remember_5 : decode cX2_remember 5 = .ok (.getfield 17, 3) := by decide +kernel
theorem dX2_remember_8 : decode cX2_remember 8 = .ok (.aaload, 1) := by decide +kernel
theorem dX2_remember_9 : decode cX2_remember 9 = .ok (.aload_n 1, 1) := by decide +kernel
theorem dX2_remember_10 : decode cX2_remember 10 = .ok (.invokevirtual 25, 3) := by decide +kernel
theorem dX2_remember_13 : decode cX2_remember 13 = .ok (.aload_n 0, 1) := by decide +kernel
theorem dX2_remember_14 : decode cX2_remember 14 = .ok (.aload_n 0, 1) := by decide +kernel
theorem dX2_remember_15 : decode cX2_remember 15 = .ok (.getfield 17, 3) := by decide +kernel
theorem dX2_remember_18 : decode cX2_remember 18 = .ok (.iconst 1, 1) := by decide +kernel
theorem dX2_remember_19 : decode cX2_remember 19 = .ok (.iadd, 1) := by decide +kernel
theorem dX2_remember_20 : decode cX2_remember 20 = .ok (.bipush 10, 2) := by decide +kernel
theorem dX2_remember_22 : decode cX2_remember 22 = .ok (.irem, 1) := by decide +kernel
theorem dX2_remember_23 : decode cX2_remember 23 = .ok (.putfield 17, 3) := by decide +kernel
theorem dX2_remember_26 : decode cX2_remember 26 = .ok (.aload_n 0, 1) := by decide +kernel
theorem dX2_remember_27 : decode cX2_remember 27 = .ok (.aload_n 0, 1) := by decide +kernel
theorem dX2_remember_28 : decode cX2_remember 28 = .ok (.getfield 21, 3) := by decide +kernel
theorem dX2_remember_31 : decode cX2_remember 31 = .ok (.iconst 1, 1) := by decide +kernel
theorem dX2_remember_32 : decode cX2_remember 32 = .ok (.iadd, 1) := by decide +kernel
theorem dX2_remember_33 : decode cX2_remember 33 = .ok (.bipush 10, 2) := by decide +kernel
theorem dX2_remember_35 : decode cX2_remember 35 = .ok (.invokestatic 29, 3) := by decide +kernel
theorem dX2_remember_38 : decode cX2_remember 38 = .ok (.putfield 21, 3) := by decide +kernel
theorem dX2_remember_41 : decode cX2_remember 41 = .ok (.return_, 1) := by decide +kernel
set_option maxRecDepth 20000 in
theorem ggX2_restore_X1_become : GoodIn wsX2_restore wsX1_become := goodIn_r _ [7, 8, 9, 10, 11, 12, 13, 14, 15, 16, 17, 21, 22, 23, 24, 25, 26] (by decide +kernel) (by decide +kernel)
set_option maxRecDepth 20000 in
theorem gX2_restore_X1_become_n25 : GoodIn wsX2_restore (wsX1_become) := ggX2_restore_X1_become
theorem dX2_restore_0 : decode cX2_restore 0 = .ok (.aload_n 0, 1) := by decide +kernel
theorem dX2_restore_1 : decode cX2_restore 1 = .ok (.aload_n 0, 1) := by decide +kernel
theorem dX2_restore_2 : decode cX2_restore 2 = .ok (.getfield 17, 3) := by decide +kernel
theorem dX2_restore_5 : decode cX2_restore 5 = .ok (.bipush 10, 2) := by decide +kernel
theorem dX2_restore_7 : decode cX2_restore 7 = .ok (.iadd, 1) := by decide +kernel
theorem dX2_restore_8 : decode cX2_restore 8 = .ok (.iconst 1, 1) := by decide +kernel
theorem dX2_restore_9 : decode cX2_restore 9 = .ok (.isub, 1) := by decide +kernel
theorem dX2_restore_10 : decode cX2_restore 10 = .ok (.bipush 10, 2) := by decide +kernel
theorem dX2_restore_12 : decode cX2_restore 12 = .ok (.irem, 1) := by decide +kernel
theorem dX2_restore_13 : decode cX2_restore 13 = .ok (.putfield 17, 3) := by decide +kernel
theorem dX2_restore_16 : decode cX2_restore 16 = .ok (.aload_n 0, 1) := by decide +kernel
theorem dX2_restore_17 : decode cX2_restore 17 = .ok (.dup, 1) := by decide +kernel
theorem dX2_restore_18 : decode cX2_restore 18 = .ok (.getfield 21, 3) := by decide +kernel
theorem dX2_restore_21 : decode cX2_restore 21 = .ok (.iconst 1, 1) := by decide +kernel
theorem dX2_restore_22 : decode cX2_restore 22 = .ok (.isub, 1) := by decide +kernel
theorem dX2_restore_23 : decode cX2_restore 23 = .ok (.putfield 21, 3) := by decide +kernel
theorem dX2_restore_26 : decode cX2_restore 26 = .ok (.aload_n 1, 1) := by decide +kernel
theorem dX2_restore_27 : decode cX2_restore 27 = .ok (.aload_n 0, 1) := by decide +kernel
theorem dX2_restore_28 : decode cX2_restore 28 = .ok (.getfield 11, 3) := by decide +kernel
theorem dX2_restore_31 : decode cX2_restore 31 = .ok (.aload_n 0, 1) := by decide +kernel
theorem dX2_restore_32 : decode cX2_restore 32 = .ok (.getfield 17, 3) := by decide +kernel
theorem dX2_restore_35 : decode cX2_restore 35 = .ok (.aaload, 1) := by decide +kernel
theorem dX2_restore_36 : decode cX2_restore 36 = .ok (.invokevirtual 25, 3) := by decide +kernel
theorem dX2_restore_39 : decode cX2_restore 39 = .ok (.return_, 1) := by decide +kernel
theorem dX3_init_0 : decode cX3_init 0 = .ok (.aload_n 0, 1) := by decide +kernel
theorem dX3_init_1 : decode cX3_init 1 = .ok (.invokespecial 3, 3) := by decide +kernel
theorem dX3_init_4 : decode cX3_init 4 = .ok (.aload_n 0, 1) := by decide +kernel
theorem dX3_init_5 : decode cX3_init 5 = .ok (.bipush 6, 2) := by decide +kernel
theorem dX3_init_7 : decode cX3_init 7 = .ok (.newarray .int, 2) := by decide +kernel
theorem dX3_init_9 : decode cX3_init 9 = .ok (.putfield 9, 3) := by decide +kernel
theorem dX3_init_12 : decode cX3_init 12 = .ok (.aload_n 0, 1) := by decide +kernel
theorem dX3_init_13 : decode cX3_init 13 = .ok (.bipush 6, 2) := by decide +kernel
theorem dX3_init_15 : decode cX3_init 15 = .ok (.newarray .boolean, 2) := by decide +kernel
theorem dX3_init_17 : decode cX3_init 17 = .ok (.putfield 15, 3) := by decide +kernel
theorem dX3_init_20 : decode cX3_init 20 = .ok (.aload_n 0, 1) := by decide +kernel
theorem dX3_init_21 : decode cX3_init 21 = .ok (.iconst 0, 1) := by decide +kernel
theorem dX3_init_22 : decode cX3_init 22 = .ok (.putfield 19, 3) := by decide +kernel
theorem dX3_init_25 : decode cX3_init 25 = .ok (.return_, 1) := by decide +kernel
theorem dX3_add_0 : decode cX3_add 0 = .ok (.aload_n 0, 1) := by decide +kernel
theorem dX3_add_1 : decode cX3_add 1 = .ok (.getfield 9, 3) := by decide +kernel
theorem dX3_add_4 : decode cX3_add 4 = .ok (.aload_n 0, 1) := by decide +kernel
theorem dX3_add_5 : decode cX3_add 5 = .ok (.getfield 19, 3) := by decide +kernel
theorem dX3_add_8 : decode cX3_add 8 = .ok (.iload_n 1, 1) := by decide +kernel
theorem dX3_add_9 : decode cX3_add 9 = .ok (.iastore, 1) := by decide +kernel
theorem dX3_add_10 : decode cX3_add 10 = .ok (.aload_n 0, 1) := by decide +kernel
theorem dX3_add_11 : decode cX3_add 11 = .ok (.getfield 15, 3) := by decide +kernel
theorem dX3_add_14 : decode cX3_add 14 = .ok (.aload_n 0, 1) := by decide +kernel
theorem dX3_add_15 : decode cX3_add 15 = .ok (.getfield 19, 3) := by decide +kernel
theorem dX3_add_18 : decode cX3_add 18 = .ok (.iload_n 2, 1) := by decide +kernel
theorem dX3_add_19 : decode cX3_add 19 = .ok (.bastore, 1) := by decide +kernel
theorem dX3_add_20 : decode cX3_add 20 = .ok (.aload_n 0, 1) := by decide +kernel
theorem dX3_add_21 : decode cX3_add 21 = .ok (.dup, 1) := by decide +kernel
theorem dX3_add_22 : decode cX3_add 22 = .ok (.getfield 19, 3) := by decide +kernel
theorem dX3_add_25 : decode cX3_add 25 = .ok (.iconst 1, 1) := by decide +kernel
theorem dX3_add_26 : decode cX3_add 26 = .ok (.iadd, 1) := by decide +kernel
theorem dX3_add_27 : decode cX3_add 27 = .ok (.putfield 19, 3) := by decide +kernel
theorem dX3_add_30 : decode cX3_add 30 = .ok (.return_, 1) := by decide +kernel
set_option maxRecDepth 20000 in
theorem ggX3_allows_X5_spans : GoodIn wsX3_allows wsX5_spans := goodIn_r _ [7, 8, 9, 13, 14, 15, 16, 17, 18, 19, 20] (by decide +kernel) (by decide +kernel)
set_option maxRecDepth 20000 in
theorem gX3_allows_X5_spans_n23 : GoodIn wsX3_allows (wsX5_spans) := ggX3_allows_X5_spans
theorem dX3_allows_0 : decode cX3_allows 0 = .ok (.iconst 0, 1) := by decide +kernel
theorem dX3_allows_1 : decode cX3_allows 1 = .ok (.istore_n 3, 1) := by decide +kernel
theorem dX3_allows_2 : decode cX3_allows 2 = .ok (.iload_n 3, 1) := by decide +kernel
theorem dX3_allows_3 : decode cX3_allows 3 = .ok (.aload_n 0, 1) := by decide +kernel
theorem dX3_allows_4 : decode cX3_allows 4 = .ok (.getfield 19, 3) := by decide +kernel
theorem dX3_allows_7 : decode cX3_allows 7 = .ok (.if_icmp .ge 31, 3) := by decide +kernel
theorem dX3_allows_10 : decode cX3_allows 10 = .ok (.aload_n 1, 1) := by decide +kernel
theorem dX3_allows_11 : decode cX3_allows 11 = .ok (.aload_n 0, 1) := by decide +kernel
theorem dX3_allows_12 : decode cX3_allows 12 = .ok (.getfield 9, 3) := by decide +kernel
theorem dX3_allows_15 : decode cX3_allows 15 = .ok (.iload_n 3, 1) := by decide +kernel
theorem dX3_allows_16 : decode cX3_allows 16 = .ok (.iaload, 1) := by decide +kernel
theorem dX3_allows_17 : decode cX3_allows 17 = .ok (.iload_n 2, 1) := by decide +kernel
theorem dX3_allows_18 : decode cX3_allows 18 = .ok (.invokevirtual 23, 3) := by decide +kernel
theorem dX3_allows_21 : decode cX3_allows 21 = .ok (.aload_n 0, 1) := by decide +kernel
theorem dX3_allows_22 : decode cX3_allows 22 = .ok (.getfield 15, 3) := by decide +kernel
theorem dX3_allows_25 : decode cX3_allows 25 = .ok (.iload_n 3, 1) := by decide +kernel
theorem dX3_allows_26 : decode cX3_allows 26 = .ok (.baload, 1) := by decide +kernel
theorem dX3_allows_27 : decode cX3_allows 27 = .ok (.if_icmp .eq 5, 3) := by decide +kernel
theorem dX3_allows_30 : decode cX3_allows 30 = .ok (.iconst 0, 1) := by decide +kernel
theorem dX3_allows_31 : decode cX3_allows 31 = .ok (.ireturn, 1) := by decide +kernel
theorem dX3_allows_32 : decode cX3_allows 32 = .ok (.iinc 3 1, 3) := by decide +kernel
theorem dX3_allows_35 : decode cX3_allows 35 = .ok (.goto (-33), 3) := by decide +kernel
theorem dX3_allows_38 : decode cX3_allows 38 = .ok (.iconst 1, 1) := by decide +kernel
theorem dX3_allows_39 : decode cX3_allows 39 = .ok (.ireturn, 1) := by decide +kernel
theorem dX4_init_0 : decode cX4_init 0 = .ok (.aload_n 0, 1) := by decide +kernel
theorem dX4_init_1 : decode cX4_init 1 = .ok (.invokespecial 3, 3) := by decide +kernel
theorem dX4_init_4 : decode cX4_init 4 = .ok (.aload_n 0, 1) := by decide +kernel
theorem dX4_init_5 : decode cX4_init 5 = .ok (.bipush 120, 2) := by decide +kernel
theorem dX4_init_7 : decode cX4_init 7 = .ok (.newarray .int, 2) := by decide +kernel
theorem dX4_init_9 : decode cX4_init 9 = .ok (.putfield 9, 3) := by decide +kernel
theorem dX4_init_12 : decode cX4_init 12 = .ok (.aload_n 0, 1) := by decide +kernel
theorem dX4_init_13 : decode cX4_init 13 = .ok (.iconst 0, 1) := by decide +kernel
theorem dX4_init_14 : decode cX4_init 14 = .ok (.putfield 15, 3) := by decide +kernel
theorem dX4_init_17 : decode cX4_init 17 = .ok (.return_, 1) := by decide +kernel
theorem dX4_add_0 : decode cX4_add 0 = .ok (.aload_n 0, 1) := by decide +kernel
theorem dX4_add_1 : decode cX4_add 1 = .ok (.getfield 9, 3) := by decide +kernel
theorem dX4_add_4 : decode cX4_add 4 = .ok (.aload_n 0, 1) := by decide +kernel
theorem dX4_add_5 : decode cX4_add 5 = .ok (.getfield 15, 3) := by decide +kernel
theorem dX4_add_8 : decode cX4_add 8 = .ok (.iload_n 1, 1) := by decide +kernel
theorem dX4_add_9 : decode cX4_add 9 = .ok (.iastore, 1) := by decide +kernel
theorem dX4_add_10 : decode cX4_add 10 = .ok (.aload_n 0, 1) := by decide +kernel
theorem dX4_add_11 : decode cX4_add 11 = .ok (.dup, 1) := by decide +kernel
theorem dX4_add_12 : decode cX4_add 12 = .ok (.getfield 15, 3) := by decide +kernel
theorem dX4_add_15 : decode cX4_add 15 = .ok (.iconst 1, 1) := by decide +kernel
theorem dX4_add_16 : decode cX4_add 16 = .ok (.iadd, 1) := by decide +kernel
theorem dX4_add_17 : decode cX4_add 17 = .ok (.putfield 15, 3) := by decide +kernel
theorem dX4_add_20 : decode cX4_add 20 = .ok (.return_, 1) := by decide +kernel
set_option maxRecDepth 20000 in
theorem ggX4_reads_X5_tellNothing : GoodIn wsX4_reads wsX5_tellNothing := goodIn_r _ [9, 10, 11, 12, 13, 14, 70, 71, 72, 73, 74, 75, 76, 77] (by decide +kernel) (by decide +kernel)
set_option maxRecDepth 20000 in
theorem gX4_reads_X5_tellNothing_n29 : GoodIn wsX4_reads (wsX5_tellNothing) := ggX4_reads_X5_tellNothing
set_option maxRecDepth 20000 in
theorem ggX4_reads_X4_readToken : GoodIn wsX4_reads wsX4_readToken := goodIn_r _ [19, 1, 4, 20, 21, 5, 22, 23, 18, 24, 25, 26, 27, 28, 29, 30, 31, 32, 33, 62, 63, 64, 65, 66, 67, 68, 69] (by decide +kernel) (by decide +kernel)
set_option maxRecDepth 20000 in
theorem gX4_reads_X4_readToken : GoodIn wsX4_reads (wsV RX4 34 RX4 yX4_readToken wsX4_readToken) := goodIn_app (goodIn_of _ (by decide +kernel)) ggX4_reads_X4_readToken
set_option maxRecDepth 20000 in
theorem ggX4_reads_X4_readsItem : GoodIn wsX4_reads wsX4_readsItem := goodIn_r _ [37, 5, 38, 39, 40, 18, 41, 29, 42, 43, 44, 45, 15, 16, 17, 19, 1, 4, 20, 21, 22, 23, 24, 25, 26, 27, 28, 30, 31, 32, 33, 46, 47, 48, 49, 50, 51, 52, 53, 2, 54, 55, 56, 57, 3, 62, 63, 64, 65, 66, 67, 68, 69, 70, 71, 72, 73, 74, 75, 76, 77] (by decide +kernel) (by decide +kernel)
set_option maxRecDepth 20000 in
theorem gX4_reads_X4_readsItem : GoodIn wsX4_reads (wsV RX4 40 RX4 yX4_readsItem wsX4_readsItem) := goodIn_app (goodIn_of _ (by decide +kernel)) ggX4_reads_X4_readsItem
set_option maxRecDepth 20000 in
theorem ggX4_reads_X4_readsItemEnd : GoodIn wsX4_reads wsX4_readsItemEnd := goodIn_r _ [61, 5, 15, 16, 17, 18, 19, 1, 4, 20, 21, 22, 23, 24, 25, 26, 27, 28, 29, 30, 31, 32, 33, 62, 63, 64, 65, 66, 67, 68, 69] (by decide +kernel) (by decide +kernel)
set_option maxRecDepth 20000 in
theorem gX4_reads_X4_readsItemEnd : GoodIn wsX4_reads (wsV RX4 44 RX4 yX4_readsItemEnd wsX4_readsItemEnd) := goodIn_app (goodIn_of _ (by decide +kernel)) ggX4_reads_X4_readsItemEnd
theorem dX4_reads_0 : decode cX4_reads 0 = .ok (.aload_n 0, 1) := by decide +kernel
theorem dX4_reads_1 : decode cX4_reads 1 = .ok (.iconst 0, 1) := by decide +kernel
theorem dX4_reads_2 : decode cX4_reads 2 = .ok (.putfield 19, 3) := by decide +kernel
theorem dX4_reads_5 : decode cX4_reads 5 = .ok (.aload_n 0, 1) := by decide +kernel
theorem dX4_reads_6 : decode cX4_reads 6 = .ok (.iconst 0, 1) := by decide +kernel
theorem dX4_reads_7 : decode cX4_reads 7 = .ok (.putfield 22, 3) := by decide +kernel
theorem dX4_reads_10 : decode cX4_reads 10 = .ok (.aload_n 0, 1) := by decide +kernel
theorem dX4_reads_11 : decode cX4_reads 11 = .ok (.iconst 0, 1) := by decide +kernel
theorem dX4_reads_12 : decode cX4_reads 12 = .ok (.putfield 26, 3) := by decide +kernel
theorem dX4_reads_15 : decode cX4_reads 15 = .ok (.aload_n 1, 1) := by decide +kernel
theorem dX4_reads_16 : decode cX4_reads 16 = .ok (.invokevirtual 29, 3) := by decide +kernel
theorem dX4_reads_19 : decode cX4_reads 19 = .ok (.iconst 0, 1) := by decide +kernel
theorem dX4_reads_20 : decode cX4_reads 20 = .ok (.istore_n 2, 1) := by decide +kernel
theorem dX4_reads_21 : decode cX4_reads 21 = .ok (.iload_n 2, 1) := by decide +kernel
theorem dX4_reads_22 : decode cX4_reads 22 = .ok (.aload_n 0, 1) := by decide +kernel
theorem dX4_reads_23 : decode cX4_reads 23 = .ok (.getfield 15, 3) := by decide +kernel
theorem dX4_reads_26 : decode cX4_reads 26 = .ok (.if_icmp .gt 50, 3) := by decide +kernel
theorem dX4_reads_29 : decode cX4_reads 29 = .ok (.aload_n 0, 1) := by decide +kernel
theorem dX4_reads_30 : decode cX4_reads 30 = .ok (.invokevirtual 34, 3) := by decide +kernel
theorem dX4_reads_33 : decode cX4_reads 33 = .ok (.aload_n 0, 1) := by decide +kernel
theorem dX4_reads_34 : decode cX4_reads 34 = .ok (.getfield 37, 3) := by decide +kernel
theorem dX4_reads_37 : decode cX4_reads 37 = .ok (.iconst (-1), 1) := by decide +kernel
theorem dX4_reads_38 : decode cX4_reads 38 = .ok (.if_icmp .ne 5, 3) := by decide +kernel
theorem dX4_reads_41 : decode cX4_reads 41 = .ok (.iconst 1, 1) := by decide +kernel
theorem dX4_reads_42 : decode cX4_reads 42 = .ok (.ireturn, 1) := by decide +kernel
theorem dX4_reads_43 : decode cX4_reads 43 = .ok (.aload_n 0, 1) := by decide +kernel
theorem dX4_reads_44 : decode cX4_reads 44 = .ok (.aload_n 1, 1) := by decide +kernel
theorem dX4_reads_45 : decode cX4_reads 45 = .ok (.invokevirtual 40, 3) := by decide +kernel
theorem dX4_reads_48 : decode cX4_reads 48 = .ok (.ifCond .eq 10, 3) := by decide +kernel
theorem dX4_reads_51 : decode cX4_reads 51 = .ok (.aload_n 0, 1) := by decide +kernel
theorem dX4_reads_52 : decode cX4_reads 52 = .ok (.invokevirtual 44, 3) := by decide +kernel
theorem dX4_reads_55 : decode cX4_reads 55 = .ok (.ifCond .ne 5, 3) := by decide +kernel
theorem dX4_reads_58 : decode cX4_reads 58 = .ok (.iconst 0, 1) := by decide +kernel
theorem dX4_reads_59 : decode cX4_reads 59 = .ok (.ireturn, 1) := by decide +kernel
theorem dX4_reads_60 : decode cX4_reads 60 = .ok (.aload_n 1, 1) := by decide +kernel
theorem dX4_reads_61 : decode cX4_reads 61 = .ok (.dup, 1) := by decide +kernel
theorem dX4_reads_62 : decode cX4_reads 62 = .ok (.getfield 48, 3) := by decide +kernel
theorem dX4_reads_65 : decode cX4_reads 65 = .ok (.iconst 1, 1) := by decide +kernel
theorem dX4_reads_66 : decode cX4_reads 66 = .ok (.iadd, 1) := by decide +kernel
theorem dX4_reads_67 : decode cX4_reads 67 = .ok (.putfield 48, 3) := by decide +kernel
theorem dX4_reads_70 : decode cX4_reads 70 = .ok (.iinc 2 1, 3) := by decide +kernel
theorem dX4_reads_73 : decode cX4_reads 73 = .ok (.goto (-52), 3) := by decide +kernel
theorem dX4_reads_76 : decode cX4_reads 76 = .ok (.iconst 0, 1) := by decide +kernel
theorem dX4_reads_77 : decode cX4_reads 77 = .ok (.ireturn, 1) := by decide +kernel
set_option maxRecDepth 20000 in
theorem ggX4_readsItem_X4_readsRoom : GoodIn wsX4_readsItem wsX4_readsRoom := goodIn_r _ [6, 7, 8, 9, 10, 5, 11, 1, 12, 13, 14, 15, 16, 17, 18, 19, 20, 21, 22, 23, 24, 25, 26, 27, 28, 29, 30, 53, 54, 55, 56, 57, 58, 59, 60, 45, 46, 47, 48, 49, 50, 51, 52] (by decide +kernel) (by decide +kernel)
set_option maxRecDepth 20000 in
theorem gX4_readsItem_X4_readsRoom : GoodIn wsX4_readsItem (wsV RX4 51 RX4 yX4_readsRoom wsX4_readsRoom) := goodIn_app (goodIn_of _ (by decide +kernel)) ggX4_readsItem_X4_readsRoom
set_option maxRecDepth 20000 in
theorem ggX4_readsItem_X4_readsWork : GoodIn wsX4_readsItem wsX4_readsWork := goodIn_r _ [34, 7, 8, 9, 10, 5, 11, 1, 12, 13, 14, 15, 16, 17, 18, 19, 20, 21, 22, 23, 24, 25, 26, 27, 28, 29, 30, 53, 54, 55, 56, 57, 58, 59, 60, 45, 46, 47, 48, 49, 50, 51, 52] (by decide +kernel) (by decide +kernel)
set_option maxRecDepth 20000 in
theorem gX4_readsItem_X4_readsWork : GoodIn wsX4_readsItem (wsV RX4 54 RX4 yX4_readsWork wsX4_readsWork) := goodIn_app (goodIn_of _ (by decide +kernel)) ggX4_readsItem_X4_readsWork
set_option maxRecDepth 20000 in
theorem ggX4_readsItem_X4_readsMothers : GoodIn wsX4_readsItem wsX4_readsMothers := goodIn_r _ [38, 39, 7, 8, 9, 10, 5, 11, 1, 12, 13, 14, 15, 16, 17, 18, 19, 20, 21, 22, 23, 24, 25, 26, 27, 28, 29, 30, 45, 46, 47, 48, 49, 50, 51, 52, 53, 54, 55, 56, 57, 58, 59, 60] (by decide +kernel) (by decide +kernel)
set_option maxRecDepth 20000 in
theorem gX4_readsItem_X4_readsMothers : GoodIn wsX4_readsItem (wsV RX4 57 RX4 yX4_readsMothers wsX4_readsMothers) := goodIn_app (goodIn_of _ (by decide +kernel)) ggX4_readsItem_X4_readsMothers
set_option maxRecDepth 20000 in
theorem ggX4_readsItem_X4_readsLife : GoodIn wsX4_readsItem wsX4_readsLife := goodIn_r _ [43, 44, 7, 8, 9, 10, 5, 11, 1, 12, 13, 14, 15, 16, 17, 18, 19, 20, 21, 22, 23, 24, 25, 26, 27, 28, 29, 30, 45, 46, 47, 48, 49, 50, 51, 52, 53, 54, 55, 56, 57, 58, 59, 60] (by decide +kernel) (by decide +kernel)
set_option maxRecDepth 20000 in
theorem gX4_readsItem_X4_readsLife : GoodIn wsX4_readsItem (wsV RX4 60 RX4 yX4_readsLife wsX4_readsLife) := goodIn_app (goodIn_of _ (by decide +kernel)) ggX4_readsItem_X4_readsLife
theorem dX4_readsItem_0 : decode cX4_readsItem 0 = .ok (.aload_n 0, 1) := by decide +kernel
theorem dX4_readsItem_1 : decode cX4_readsItem 1 = .ok (.getfield 37, 3) := by decide +kernel
theorem dX4_readsItem_4 : decode cX4_readsItem 4 = .ok (.lookupswitch 68 #[(97, 44), (108, 62), (109, 56), (119, 50)], 44) := by decide +kernel
theorem dX4_readsItem_48 : decode cX4_readsItem 48 = .ok (.aload_n 0, 1) := by decide +kernel
theorem dX4_readsItem_49 : decode cX4_readsItem 49 = .ok (.aload_n 1, 1) := by decide +kernel
theorem dX4_readsItem_50 : decode cX4_readsItem 50 = .ok (.invokevirtual 51, 3) := by decide +kernel
theorem dX4_readsItem_53 : decode cX4_readsItem 53 = .ok (.ireturn, 1) := by decide +kernel
theorem dX4_readsItem_54 : decode cX4_readsItem 54 = .ok (.aload_n 0, 1) := by decide +kernel
theorem dX4_readsItem_55 : decode cX4_readsItem 55 = .ok (.aload_n 1, 1) := by decide +kernel
theorem dX4_readsItem_56 : decode cX4_readsItem 56 = .ok (.invokevirtual 54, 3) := by decide +kernel
theorem dX4_readsItem_59 : decode cX4_readsItem 59 = .ok (.ireturn, 1) := by decide +kernel
theorem dX4_readsItem_60 : decode cX4_readsItem 60 = .ok (.aload_n 0, 1) := by decide +kernel
theorem dX4_readsItem_61 : decode cX4_readsItem 61 = .ok (.aload_n 1, 1) := by decide +kernel
theorem dX4_readsItem_62 : decode cX4_readsItem 62 = .ok (.invokevirtual 57, 3) := by decide +kernel
theorem dX4_readsItem_65 : decode cX4_readsItem 65 = .ok (.ireturn, 1) := by decide +kernel
theorem dX4_readsItem_66 : decode cX4_readsItem 66 = .ok (.aload_n 0, 1) := by decide +kernel
theorem dX4_readsItem_67 : decode cX4_readsItem 67 = .ok (.aload_n 1, 1) := by decide +kernel
theorem dX4_readsItem_68 : decode cX4_readsItem 68 = .ok (.invokevirtual 60, 3) := by decide +kernel
theorem dX4_readsItem_71 : decode cX4_readsItem 71 = .ok (.ireturn, 1) := by decide +kernel
theorem dX4_readsItem_72 : decode cX4_readsItem 72 = .ok (.iconst 0, 1) := by decide +kernel
theorem dX4_readsItem_73 : decode cX4_readsItem 73 = .ok (.ireturn, 1) := by decide +kernel
set_option maxRecDepth 20000 in
theorem ggX4_readsRoom_X4_readsNumber : GoodIn wsX4_readsRoom wsX4_readsNumber := goodIn_r _ [6, 7, 1, 8, 9, 10, 5, 11, 12, 13, 14, 15, 16, 17, 18, 19, 20, 21, 22, 23, 24, 25, 26, 35, 36, 37, 38, 39, 40, 41, 42] (by decide +kernel) (by decide +kernel)
set_option maxRecDepth 20000 in
theorem gX4_readsRoom_X4_readsNumber : GoodIn wsX4_readsRoom (wsV RX4 66 RX4 yX4_readsNumber wsX4_readsNumber) := goodIn_app (goodIn_of _ (by decide +kernel)) ggX4_readsRoom_X4_readsNumber
theorem dX4_readsRoom_0 : decode cX4_readsRoom 0 = .ok (.aload_n 1, 1) := by decide +kernel
theorem dX4_readsRoom_1 : decode cX4_readsRoom 1 = .ok (.getfield 63, 3) := by decide +kernel
theorem dX4_readsRoom_4 : decode cX4_readsRoom 4 = .ok (.bipush 6, 2) := by decide +kernel
theorem dX4_readsRoom_6 : decode cX4_readsRoom 6 = .ok (.if_icmp .ge 13, 3) := by decide +kernel
theorem dX4_readsRoom_9 : decode cX4_readsRoom 9 = .ok (.aload_n 0, 1) := by decide +kernel
theorem dX4_readsRoom_10 : decode cX4_readsRoom 10 = .ok (.iconst 0, 1) := by decide +kernel
theorem dX4_readsRoom_11 : decode cX4_readsRoom 11 = .ok (.bipush 99, 2) := by decide +kernel
theorem dX4_readsRoom_13 : decode cX4_readsRoom 13 = .ok (.invokevirtual 66, 3) := by decide +kernel
theorem dX4_readsRoom_16 : decode cX4_readsRoom 16 = .ok (.ifCond .ne 5, 3) := by decide +kernel
theorem dX4_readsRoom_19 : decode cX4_readsRoom 19 = .ok (.iconst 0, 1) := by decide +kernel
theorem dX4_readsRoom_20 : decode cX4_readsRoom 20 = .ok (.ireturn, 1) := by decide +kernel
theorem dX4_readsRoom_21 : decode cX4_readsRoom 21 = .ok (.aload_n 1, 1) := by decide +kernel
theorem dX4_readsRoom_22 : decode cX4_readsRoom 22 = .ok (.getfield 70, 3) := by decide +kernel
theorem dX4_readsRoom_25 : decode cX4_readsRoom 25 = .ok (.aload_n 1, 1) := by decide +kernel
theorem dX4_readsRoom_26 : decode cX4_readsRoom 26 = .ok (.getfield 63, 3) := by decide +kernel
theorem dX4_readsRoom_29 : decode cX4_readsRoom 29 = .ok (.aload_n 0, 1) := by decide +kernel
theorem dX4_readsRoom_30 : decode cX4_readsRoom 30 = .ok (.getfield 73, 3) := by decide +kernel
theorem dX4_readsRoom_33 : decode cX4_readsRoom 33 = .ok (.iastore, 1) := by decide +kernel
theorem dX4_readsRoom_34 : decode cX4_readsRoom 34 = .ok (.aload_n 1, 1) := by decide +kernel
theorem dX4_readsRoom_35 : decode cX4_readsRoom 35 = .ok (.dup, 1) := by decide +kernel
theorem dX4_readsRoom_36 : decode cX4_readsRoom 36 = .ok (.getfield 63, 3) := by decide +kernel
theorem dX4_readsRoom_39 : decode cX4_readsRoom 39 = .ok (.iconst 1, 1) := by decide +kernel
theorem dX4_readsRoom_40 : decode cX4_readsRoom 40 = .ok (.iadd, 1) := by decide +kernel
theorem dX4_readsRoom_41 : decode cX4_readsRoom 41 = .ok (.putfield 63, 3) := by decide +kernel
theorem dX4_readsRoom_44 : decode cX4_readsRoom 44 = .ok (.iconst 1, 1) := by decide +kernel
theorem dX4_readsRoom_45 : decode cX4_readsRoom 45 = .ok (.ireturn, 1) := by decide +kernel
set_option maxRecDepth 20000 in
theorem ggX4_readsWork_X4_readsNumber : GoodIn wsX4_readsWork wsX4_readsNumber := goodIn_r _ [6, 7, 1, 8, 9, 10, 5, 11, 12, 13, 14, 15, 16, 17, 18, 19, 20, 21, 22, 23, 24, 25, 26, 35, 36, 37, 38, 39, 40, 41, 42] (by decide +kernel) (by decide +kernel)
set_option maxRecDepth 20000 in
theorem gX4_readsWork_X4_readsNumber : GoodIn wsX4_readsWork (wsV RX4 66 RX4 yX4_readsNumber wsX4_readsNumber) := goodIn_app (goodIn_of _ (by decide +kernel)) ggX4_readsWork_X4_readsNumber
theorem dX4_readsWork_0 : decode cX4_readsWork 0 = .ok (.aload_n 1, 1) := by decide +kernel
theorem dX4_readsWork_1 : decode cX4_readsWork 1 = .ok (.getfield 76, 3) := by decide +kernel
theorem dX4_readsWork_4 : decode cX4_readsWork 4 = .ok (.iconst 5, 1) := by decide +kernel
theorem dX4_readsWork_5 : decode cX4_readsWork 5 = .ok (.if_icmp .ge 13, 3) := by decide +kernel
theorem dX4_readsWork_8 : decode cX4_readsWork 8 = .ok (.aload_n 0, 1) := by decide +kernel
theorem dX4_readsWork_9 : decode cX4_readsWork 9 = .ok (.iconst 0, 1) := by decide +kernel
theorem dX4_readsWork_10 : decode cX4_readsWork 10 = .ok (.bipush 99, 2) := by decide +kernel
theorem dX4_readsWork_12 : decode cX4_readsWork 12 = .ok (.invokevirtual 66, 3) := by decide +kernel
theorem dX4_readsWork_15 : decode cX4_readsWork 15 = .ok (.ifCond .ne 5, 3) := by decide +kernel
theorem dX4_readsWork_18 : decode cX4_readsWork 18 = .ok (.iconst 0, 1) := by decide +kernel
theorem dX4_readsWork_19 : decode cX4_readsWork 19 = .ok (.ireturn, 1) := by decide +kernel
theorem dX4_readsWork_20 : decode cX4_readsWork 20 = .ok (.aload_n 0, 1) := by decide +kernel
theorem dX4_readsWork_21 : decode cX4_readsWork 21 = .ok (.getfield 73, 3) := by decide +kernel
theorem dX4_readsWork_24 : decode cX4_readsWork 24 = .ok (.istore_n 2, 1) := by decide +kernel
theorem dX4_readsWork_25 : decode cX4_readsWork 25 = .ok (.aload_n 0, 1) := by decide +kernel
theorem dX4_readsWork_26 : decode cX4_readsWork 26 = .ok (.iload_n 2, 1) := by decide +kernel
theorem dX4_readsWork_27 : decode cX4_readsWork 27 = .ok (.bipush 99, 2) := by decide +kernel
theorem dX4_readsWork_29 : decode cX4_readsWork 29 = .ok (.invokevirtual 66, 3) := by decide +kernel
theorem dX4_readsWork_32 : decode cX4_readsWork 32 = .ok (.ifCond .ne 5, 3) := by decide +kernel
theorem dX4_readsWork_35 : decode cX4_readsWork 35 = .ok (.iconst 0, 1) := by decide +kernel
theorem dX4_readsWork_36 : decode cX4_readsWork 36 = .ok (.ireturn, 1) := by decide +kernel
theorem dX4_readsWork_37 : decode cX4_readsWork 37 = .ok (.aload_n 1, 1) := by decide +kernel
theorem dX4_readsWork_38 : decode cX4_readsWork 38 = .ok (.getfield 79, 3) := by decide +kernel
theorem dX4_readsWork_41 : decode cX4_readsWork 41 = .ok (.aload_n 1, 1) := by decide +kernel
theorem dX4_readsWork_42 : decode cX4_readsWork 42 = .ok (.getfield 76, 3) := by decide +kernel
theorem dX4_readsWork_45 : decode cX4_readsWork 45 = .ok (.iload_n 2, 1) := by decide +kernel
theorem dX4_readsWork_46 : decode cX4_readsWork 46 = .ok (.iastore, 1) := by decide +kernel
theorem dX4_readsWork_47 : decode cX4_readsWork 47 = .ok (.aload_n 1, 1) := by decide +kernel
theorem dX4_readsWork_48 : decode cX4_readsWork 48 = .ok (.getfield 82, 3) := by decide +kernel
theorem dX4_readsWork_51 : decode cX4_readsWork 51 = .ok (.aload_n 1, 1) := by decide +kernel
theorem dX4_readsWork_52 : decode cX4_readsWork 52 = .ok (.getfield 76, 3) := by decide +kernel
theorem dX4_readsWork_55 : decode cX4_readsWork 55 = .ok (.aload_n 0, 1) := by decide +kernel
theorem dX4_readsWork_56 : decode cX4_readsWork 56 = .ok (.getfield 73, 3) := by decide +kernel
theorem dX4_readsWork_59 : decode cX4_readsWork 59 = .ok (.iastore, 1) := by decide +kernel
theorem dX4_readsWork_60 : decode cX4_readsWork 60 = .ok (.aload_n 1, 1) := by decide +kernel
theorem dX4_readsWork_61 : decode cX4_readsWork 61 = .ok (.dup, 1) := by decide +kernel
theorem dX4_readsWork_62 : decode cX4_readsWork 62 = .ok (.getfield 76, 3) := by decide +kernel
theorem dX4_readsWork_65 : decode cX4_readsWork 65 = .ok (.iconst 1, 1) := by decide +kernel
theorem dX4_readsWork_66 : decode cX4_readsWork 66 = .ok (.iadd, 1) := by decide +kernel
theorem dX4_readsWork_67 : decode cX4_readsWork 67 = .ok (.putfield 76, 3) := by decide +kernel
theorem dX4_readsWork_70 : decode cX4_readsWork 70 = .ok (.iconst 1, 1) := by decide +kernel
theorem dX4_readsWork_71 : decode cX4_readsWork 71 = .ok (.ireturn, 1) := by decide +kernel
set_option maxRecDepth 20000 in
theorem ggX4_readsMothers_X4_readsNumber : GoodIn wsX4_readsMothers wsX4_readsNumber := goodIn_r _ [7, 8, 2, 9, 10, 11, 6, 12, 13, 14, 15, 16, 17, 18, 19, 20, 21, 22, 23, 24, 25, 26, 27, 28, 29, 30, 31, 32, 33, 34, 35] (by decide +kernel) (by decide +kernel)
set_option maxRecDepth 20000 in
theorem gX4_readsMothers_X4_readsNumber : GoodIn wsX4_readsMothers (wsV RX4 66 RX4 yX4_readsNumber wsX4_readsNumber) := goodIn_app (goodIn_of _ (by decide +kernel)) ggX4_readsMothers_X4_readsNumber
theorem dX4_readsMothers_0 : decode cX4_readsMothers 0 = .ok (.aload_n 0, 1) := by decide +kernel
theorem dX4_readsMothers_1 : decode cX4_readsMothers 1 = .ok (.getfield 22, 3) := by decide +kernel
theorem dX4_readsMothers_4 : decode cX4_readsMothers 4 = .ok (.ifCond .ne 13, 3) := by decide +kernel
theorem dX4_readsMothers_7 : decode cX4_readsMothers 7 = .ok (.aload_n 0, 1) := by decide +kernel
theorem dX4_readsMothers_8 : decode cX4_readsMothers 8 = .ok (.iconst 1, 1) := by decide +kernel
theorem dX4_readsMothers_9 : decode cX4_readsMothers 9 = .ok (.bipush 6, 2) := by decide +kernel
theorem dX4_readsMothers_11 : decode cX4_readsMothers 11 = .ok (.invokevirtual 66, 3) := by decide +kernel
theorem dX4_readsMothers_14 : decode cX4_readsMothers 14 = .ok (.ifCond .ne 5, 3) := by decide +kernel
theorem dX4_readsMothers_17 : decode cX4_readsMothers 17 = .ok (.iconst 0, 1) := by decide +kernel
theorem dX4_readsMothers_18 : decode cX4_readsMothers 18 = .ok (.ireturn, 1) := by decide +kernel
theorem dX4_readsMothers_19 : decode cX4_readsMothers 19 = .ok (.aload_n 1, 1) := by decide +kernel
theorem dX4_readsMothers_20 : decode cX4_readsMothers 20 = .ok (.aload_n 0, 1) := by decide +kernel
theorem dX4_readsMothers_21 : decode cX4_readsMothers 21 = .ok (.getfield 73, 3) := by decide +kernel
theorem dX4_readsMothers_24 : decode cX4_readsMothers 24 = .ok (.putfield 85, 3) := by decide +kernel
theorem dX4_readsMothers_27 : decode cX4_readsMothers 27 = .ok (.aload_n 0, 1) := by decide +kernel
theorem dX4_readsMothers_28 : decode cX4_readsMothers 28 = .ok (.iconst 1, 1) := by decide +kernel
theorem dX4_readsMothers_29 : decode cX4_readsMothers 29 = .ok (.putfield 22, 3) := by decide +kernel
theorem dX4_readsMothers_32 : decode cX4_readsMothers 32 = .ok (.iconst 1, 1) := by decide +kernel
theorem dX4_readsMothers_33 : decode cX4_readsMothers 33 = .ok (.ireturn, 1) := by decide +kernel
set_option maxRecDepth 20000 in
theorem ggX4_readsLife_X4_readsNumber : GoodIn wsX4_readsLife wsX4_readsNumber := goodIn_r _ [7, 8, 2, 9, 10, 11, 6, 12, 13, 14, 15, 16, 17, 18, 19, 20, 21, 22, 23, 24, 25, 26, 27, 28, 29, 30, 31, 32, 33, 34, 35] (by decide +kernel) (by decide +kernel)
set_option maxRecDepth 20000 in
theorem gX4_readsLife_X4_readsNumber : GoodIn wsX4_readsLife (wsV RX4 66 RX4 yX4_readsNumber wsX4_readsNumber) := goodIn_app (goodIn_of _ (by decide +kernel)) ggX4_readsLife_X4_readsNumber
theorem dX4_readsLife_0 : decode cX4_readsLife 0 = .ok (.aload_n 0, 1) := by decide +kernel
theorem dX4_readsLife_1 : decode cX4_readsLife 1 = .ok (.getfield 26, 3) := by decide +kernel
theorem dX4_readsLife_4 : decode cX4_readsLife 4 = .ok (.ifCond .ne 14, 3) := by decide +kernel
theorem dX4_readsLife_7 : decode cX4_readsLife 7 = .ok (.aload_n 0, 1) := by decide +kernel
theorem dX4_readsLife_8 : decode cX4_readsLife 8 = .ok (.bipush 10, 2) := by decide +kernel
theorem dX4_readsLife_10 : decode cX4_readsLife 10 = .ok (.bipush 99, 2) := by decide +kernel
theorem dX4_readsLife_12 : decode cX4_readsLife 12 = .ok (.invokevirtual 66, 3) := by decide +kernel
theorem dX4_readsLife_15 : decode cX4_readsLife 15 = .ok (.ifCond .ne 5, 3) := by decide +kernel
theorem dX4_readsLife_18 : decode cX4_readsLife 18 = .ok (.iconst 0, 1) := by decide +kernel
theorem dX4_readsLife_19 : decode cX4_readsLife 19 = .ok (.ireturn, 1) := by decide +kernel
theorem dX4_readsLife_20 : decode cX4_readsLife 20 = .ok (.aload_n 1, 1) := by decide +kernel
theorem dX4_readsLife_21 : decode cX4_readsLife 21 = .ok (.aload_n 0, 1) := by decide +kernel
theorem dX4_readsLife_22 : decode cX4_readsLife 22 = .ok (.getfield 73, 3) := by decide +kernel
theorem dX4_readsLife_25 : decode cX4_readsLife 25 = .ok (.putfield 88, 3) := by decide +kernel
theorem dX4_readsLife_28 : decode cX4_readsLife 28 = .ok (.aload_n 0, 1) := by decide +kernel
theorem dX4_readsLife_29 : decode cX4_readsLife 29 = .ok (.iconst 1, 1) := by decide +kernel
theorem dX4_readsLife_30 : decode cX4_readsLife 30 = .ok (.putfield 26, 3) := by decide +kernel
theorem dX4_readsLife_33 : decode cX4_readsLife 33 = .ok (.iconst 1, 1) := by decide +kernel
theorem dX4_readsLife_34 : decode cX4_readsLife 34 = .ok (.ireturn, 1) := by decide +kernel
set_option maxRecDepth 20000 in
theorem ggX4_readsItemEnd_X4_readToken : GoodIn wsX4_readsItemEnd wsX4_readToken := goodIn_r _ [6, 7, 8, 9, 10, 1, 11, 12, 5, 13, 14, 15, 16, 17, 18, 19, 20, 21, 22, 23, 24, 25, 26, 27, 28, 29, 30] (by decide +kernel) (by decide +kernel)
set_option maxRecDepth 20000 in
theorem gX4_readsItemEnd_X4_readToken : GoodIn wsX4_readsItemEnd (wsV RX4 34 RX4 yX4_readToken wsX4_readToken) := goodIn_app (goodIn_of _ (by decide +kernel)) ggX4_readsItemEnd_X4_readToken
theorem dX4_readsItemEnd_0 : decode cX4_readsItemEnd 0 = .ok (.aload_n 0, 1) := by decide +kernel
theorem dX4_readsItemEnd_1 : decode cX4_readsItemEnd 1 = .ok (.invokevirtual 34, 3) := by decide +kernel
theorem dX4_readsItemEnd_4 : decode cX4_readsItemEnd 4 = .ok (.aload_n 0, 1) := by decide +kernel
theorem dX4_readsItemEnd_5 : decode cX4_readsItemEnd 5 = .ok (.getfield 37, 3) := by decide +kernel
theorem dX4_readsItemEnd_8 : decode cX4_readsItemEnd 8 = .ok (.bipush 59, 2) := by decide +kernel
theorem dX4_readsItemEnd_10 : decode cX4_readsItemEnd 10 = .ok (.if_icmp .ne 7, 3) := by decide +kernel
theorem dX4_readsItemEnd_13 : decode cX4_readsItemEnd 13 = .ok (.iconst 1, 1) := by decide +kernel
theorem dX4_readsItemEnd_14 : decode cX4_readsItemEnd 14 = .ok (.goto 4, 3) := by decide +kernel
theorem dX4_readsItemEnd_17 : decode cX4_readsItemEnd 17 = .ok (.iconst 0, 1) := by decide +kernel
theorem dX4_readsItemEnd_18 : decode cX4_readsItemEnd 18 = .ok (.ireturn, 1) := by decide +kernel
set_option maxRecDepth 20000 in
theorem ggX4_readsNumber_X4_readToken : GoodIn wsX4_readsNumber wsX4_readToken := goodIn_r _ [7, 8, 9, 10, 11, 1, 12, 13, 6, 14, 15, 16, 17, 18, 2, 19, 20, 21, 22, 23, 24, 25, 26, 27, 28, 29, 30] (by decide +kernel) (by decide +kernel)
set_option maxRecDepth 20000 in
theorem gX4_readsNumber_X4_readToken : GoodIn wsX4_readsNumber (wsV RX4 34 RX4 yX4_readToken wsX4_readToken) := goodIn_app (goodIn_of _ (by decide +kernel)) ggX4_readsNumber_X4_readToken
theorem dX4_readsNumber_0 : decode cX4_readsNumber 0 = .ok (.aload_n 0, 1) := by decide +kernel
theorem dX4_readsNumber_1 : decode cX4_readsNumber 1 = .ok (.invokevirtual 34, 3) := by decide +kernel
theorem dX4_readsNumber_4 : decode cX4_readsNumber 4 = .ok (.aload_n 0, 1) := by decide +kernel
theorem dX4_readsNumber_5 : decode cX4_readsNumber 5 = .ok (.getfield 37, 3) := by decide +kernel
theorem dX4_readsNumber_8 : decode cX4_readsNumber 8 = .ok (.bipush (-2), 2) := by decide +kernel
theorem dX4_readsNumber_10 : decode cX4_readsNumber 10 = .ok (.if_icmp .ne 23, 3) := by decide +kernel
theorem dX4_readsNumber_13 : decode cX4_readsNumber 13 = .ok (.aload_n 0, 1) := by decide +kernel
theorem dX4_readsNumber_14 : decode cX4_readsNumber 14 = .ok (.getfield 73, 3) := by decide +kernel
theorem dX4_readsNumber_17 : decode cX4_readsNumber 17 = .ok (.iload_n 1, 1) := by decide +kernel
theorem dX4_readsNumber_18 : decode cX4_readsNumber 18 = .ok (.if_icmp .lt 15, 3) := by decide +kernel
theorem dX4_readsNumber_21 : decode cX4_readsNumber 21 = .ok (.aload_n 0, 1) := by decide +kernel
theorem dX4_readsNumber_22 : decode cX4_readsNumber 22 = .ok (.getfield 73, 3) := by decide +kernel
theorem dX4_readsNumber_25 : decode cX4_readsNumber 25 = .ok (.iload_n 2, 1) := by decide +kernel
theorem dX4_readsNumber_26 : decode cX4_readsNumber 26 = .ok (.if_icmp .gt 7, 3) := by decide +kernel
theorem dX4_readsNumber_29 : decode cX4_readsNumber 29 = .ok (.iconst 1, 1) := by decide +kernel
theorem dX4_readsNumber_30 : decode cX4_readsNumber 30 = .ok (.goto 4, 3) := by decide +kernel
theorem dX4_readsNumber_33 : decode cX4_readsNumber 33 = .ok (.iconst 0, 1) := by decide +kernel
theorem dX4_readsNumber_34 : decode cX4_readsNumber 34 = .ok (.ireturn, 1) := by decide +kernel
set_option maxRecDepth 20000 in
theorem ggX4_readToken_X4_isDigit : GoodIn wsX4_readToken wsX4_isDigit := goodIn_r _ [9] (by decide +kernel) (by decide +kernel)
set_option maxRecDepth 20000 in
theorem gX4_readToken_X4_isDigit : GoodIn wsX4_readToken (va_wsS RX4 94 yX4_isDigit wsX4_isDigit) := goodIn_app (goodIn_of _ (by decide +kernel)) ggX4_readToken_X4_isDigit
set_option maxRecDepth 20000 in
theorem ggX4_readToken_X4_readDigits : GoodIn wsX4_readToken wsX4_readDigits := goodIn_r _ [13, 3, 1, 14, 2, 15, 16, 17, 18, 4, 6, 7, 8, 9, 19, 20, 21, 22, 23, 24, 25, 26] (by decide +kernel) (by decide +kernel)
set_option maxRecDepth 20000 in
theorem gX4_readToken_X4_readDigits : GoodIn wsX4_readToken (wsV RX4 98 RX4 yX4_readDigits wsX4_readDigits) := goodIn_app (goodIn_of _ (by decide +kernel)) ggX4_readToken_X4_readDigits
theorem dX4_readToken_0 : decode cX4_readToken 0 = .ok (.aload_n 0, 1) := by decide +kernel
theorem dX4_readToken_1 : decode cX4_readToken 1 = .ok (.getfield 19, 3) := by decide +kernel
theorem dX4_readToken_4 : decode cX4_readToken 4 = .ok (.aload_n 0, 1) := by decide +kernel
theorem dX4_readToken_5 : decode cX4_readToken 5 = .ok (.getfield 15, 3) := by decide +kernel
theorem dX4_readToken_8 : decode cX4_readToken 8 = .ok (.if_icmp .ge 30, 3) := by decide +kernel
theorem dX4_readToken_11 : decode cX4_readToken 11 = .ok (.aload_n 0, 1) := by decide +kernel
theorem dX4_readToken_12 : decode cX4_readToken 12 = .ok (.getfield 9, 3) := by decide +kernel
theorem dX4_readToken_15 : decode cX4_readToken 15 = .ok (.aload_n 0, 1) := by decide +kernel
theorem dX4_readToken_16 : decode cX4_readToken 16 = .ok (.getfield 19, 3) := by decide +kernel
theorem dX4_readToken_19 : decode cX4_readToken 19 = .ok (.iaload, 1) := by decide +kernel
theorem dX4_readToken_20 : decode cX4_readToken 20 = .ok (.bipush 32, 2) := by decide +kernel
theorem dX4_readToken_22 : decode cX4_readToken 22 = .ok (.if_icmp .ne 16, 3) := by decide +kernel
theorem dX4_readToken_25 : decode cX4_readToken 25 = .ok (.aload_n 0, 1) := by decide +kernel
theorem dX4_readToken_26 : decode cX4_readToken 26 = .ok (.dup, 1) := by decide +kernel
theorem dX4_readToken_27 : decode cX4_readToken 27 = .ok (.getfield 19, 3) := by decide +kernel
theorem dX4_readToken_30 : decode cX4_readToken 30 = .ok (.iconst 1, 1) := by decide +kernel
theorem dX4_readToken_31 : decode cX4_readToken 31 = .ok (.iadd, 1) := by decide +kernel
theorem dX4_readToken_32 : decode cX4_readToken 32 = .ok (.putfield 19, 3) := by decide +kernel
theorem dX4_readToken_35 : decode cX4_readToken 35 = .ok (.goto (-35), 3) := by decide +kernel
theorem dX4_readToken_38 : decode cX4_readToken 38 = .ok (.aload_n 0, 1) := by decide +kernel
theorem dX4_readToken_39 : decode cX4_readToken 39 = .ok (.aload_n 0, 1) := by decide +kernel
theorem dX4_readToken_40 : decode cX4_readToken 40 = .ok (.getfield 19, 3) := by decide +kernel
theorem dX4_readToken_43 : decode cX4_readToken 43 = .ok (.putfield 91, 3) := by decide +kernel
theorem dX4_readToken_46 : decode cX4_readToken 46 = .ok (.aload_n 0, 1) := by decide +kernel
theorem dX4_readToken_47 : decode cX4_readToken 47 = .ok (.getfield 19, 3) := by decide +kernel
theorem dX4_readToken_50 : decode cX4_readToken 50 = .ok (.aload_n 0, 1) := by decide +kernel
theorem dX4_readToken_51 : decode cX4_readToken 51 = .ok (.getfield 15, 3) := by decide +kernel
theorem dX4_readToken_54 : decode cX4_readToken 54 = .ok (.if_icmp .lt 11, 3) := by decide +kernel
theorem dX4_readToken_57 : decode cX4_readToken 57 = .ok (.aload_n 0, 1) := by decide +kernel
theorem dX4_readToken_58 : decode cX4_readToken 58 = .ok (.iconst (-1), 1) := by decide +kernel
theorem dX4_readToken_59 : decode cX4_readToken 59 = .ok (.putfield 37, 3) := by decide +kernel
theorem dX4_readToken_62 : decode cX4_readToken 62 = .ok (.goto 54, 3) := by decide +kernel
theorem dX4_readToken_65 : decode cX4_readToken 65 = .ok (.aload_n 0, 1) := by decide +kernel
theorem dX4_readToken_66 : decode cX4_readToken 66 = .ok (.getfield 9, 3) := by decide +kernel
theorem dX4_readToken_69 : decode cX4_readToken 69 = .ok (.aload_n 0, 1) := by decide +kernel
theorem dX4_readToken_70 : decode cX4_readToken 70 = .ok (.getfield 19, 3) := by decide +kernel
theorem dX4_readToken_73 : decode cX4_readToken 73 = .ok (.iaload, 1) := by decide +kernel
theorem dX4_readToken_74 : decode cX4_readToken 74 = .ok (.invokestatic 94, 3) := by decide +kernel
theorem dX4_readToken_77 : decode cX4_readToken 77 = .ok (.ifCond .eq 16, 3) := by decide +kernel
theorem dX4_readToken_80 : decode cX4_readToken 80 = .ok (.aload_n 0, 1) := by decide +kernel
theorem dX4_readToken_81 : decode cX4_readToken 81 = .ok (.bipush (-2), 2) := by decide +kernel
theorem dX4_readToken_83 : decode cX4_readToken 83 = .ok (.putfield 37, 3) := by decide +kernel
theorem dX4_readToken_86 : decode cX4_readToken 86 = .ok (.aload_n 0, 1) := by decide +kernel
theorem dX4_readToken_87 : decode cX4_readToken 87 = .ok (.invokevirtual 98, 3) := by decide +kernel
theorem dX4_readToken_90 : decode cX4_readToken 90 = .ok (.goto 26, 3) := by decide +kernel
theorem dX4_readToken_93 : decode cX4_readToken 93 = .ok (.aload_n 0, 1) := by decide +kernel
theorem dX4_readToken_94 : decode cX4_readToken 94 = .ok (.aload_n 0, 1) := by decide +kernel
theorem dX4_readToken_95 : decode cX4_readToken 95 = .ok (.getfield 9, 3) := by decide +kernel
theorem dX4_readToken_98 : decode cX4_readToken 98 = .ok (.aload_n 0, 1) := by decide +kernel
theorem dX4_readToken_99 : decode cX4_readToken 99 = .ok (.getfield 19, 3) := by decide +kernel
theorem dX4_readToken_102 : decode cX4_readToken 102 = .ok (.iaload, 1) := by decide +kernel
theorem dX4_readToken_103 : decode cX4_readToken 103 = .ok (.putfield 37, 3) := by decide +kernel
theorem dX4_readToken_106 : decode cX4_readToken 106 = .ok (.aload_n 0, 1) := by decide +kernel
theorem dX4_readToken_107 : decode cX4_readToken 107 = .ok (.dup, 1) := by decide +kernel
theorem dX4_readToken_108 : decode cX4_readToken 108 = .ok (.getfield 19, 3) := by decide +kernel
theorem dX4_readToken_111 : decode cX4_readToken 111 = .ok (.iconst 1, 1) := by decide +kernel
theorem dX4_readToken_112 : decode cX4_readToken 112 = .ok (.iadd, 1) := by decide +kernel
theorem dX4_readToken_113 : decode cX4_readToken 113 = .ok (.putfield 19, 3) := by decide +kernel
theorem dX4_readToken_116 : decode cX4_readToken 116 = .ok (.return_, 1) := by decide +kernel
set_option maxRecDepth 20000 in
theorem ggX4_readDigits_X4_isDigit : GoodIn wsX4_readDigits wsX4_isDigit := goodIn_r _ [13] (by decide +kernel) (by decide +kernel)
set_option maxRecDepth 20000 in
theorem gX4_readDigits_X4_isDigit : GoodIn wsX4_readDigits (va_wsS RX4 94 yX4_isDigit wsX4_isDigit) := goodIn_app (goodIn_of _ (by decide +kernel)) ggX4_readDigits_X4_isDigit
theorem dX4_readDigits_0 : decode cX4_readDigits 0 = .ok (.aload_n 0, 1) := by decide +kernel
theorem dX4_readDigits_1 : decode cX4_readDigits 1 = .ok (.getfield 9, 3) := by decide +kernel
theorem dX4_readDigits_4 : decode cX4_readDigits 4 = .ok (.aload_n 0, 1) := by decide +kernel
theorem dX4_readDigits_5 : decode cX4_readDigits 5 = .ok (.getfield 19, 3) := by decide +kernel
theorem dX4_readDigits_8 : decode cX4_readDigits 8 = .ok (.iaload, 1) := by decide +kernel
theorem dX4_readDigits_9 : decode cX4_readDigits 9 = .ok (.bipush 48, 2) := by decide +kernel
theorem dX4_readDigits_11 : decode cX4_readDigits 11 = .ok (.if_icmp .ne 7, 3) := by decide +kernel
theorem dX4_readDigits_14 : decode cX4_readDigits 14 = .ok (.iconst 1, 1) := by decide +kernel
theorem dX4_readDigits_15 : decode cX4_readDigits 15 = .ok (.goto 4, 3) := by decide +kernel
theorem dX4_readDigits_18 : decode cX4_readDigits 18 = .ok (.iconst 0, 1) := by decide +kernel
theorem dX4_readDigits_19 : decode cX4_readDigits 19 = .ok (.istore_n 1, 1) := by decide +kernel
theorem dX4_readDigits_20 : decode cX4_readDigits 20 = .ok (.aload_n 0, 1) := by decide +kernel
theorem dX4_readDigits_21 : decode cX4_readDigits 21 = .ok (.iconst 0, 1) := by decide +kernel
theorem dX4_readDigits_22 : decode cX4_readDigits 22 = .ok (.putfield 73, 3) := by decide +kernel
theorem dX4_readDigits_25 : decode cX4_readDigits 25 = .ok (.aload_n 0, 1) := by decide +kernel
theorem dX4_readDigits_26 : decode cX4_readDigits 26 = .ok (.getfield 19, 3) := by decide +kernel
theorem dX4_readDigits_29 : decode cX4_readDigits 29 = .ok (.aload_n 0, 1) := by decide +kernel
theorem dX4_readDigits_30 : decode cX4_readDigits 30 = .ok (.getfield 15, 3) := by decide +kernel
theorem dX4_readDigits_33 : decode cX4_readDigits 33 = .ok (.if_icmp .ge 60, 3) := by decide +kernel
theorem dX4_readDigits_36 : decode cX4_readDigits 36 = .ok (.aload_n 0, 1) := by decide +kernel
theorem dX4_readDigits_37 : decode cX4_readDigits 37 = .ok (.getfield 9, 3) := by decide +kernel
theorem dX4_readDigits_40 : decode cX4_readDigits 40 = .ok (.aload_n 0, 1) := by decide +kernel
theorem dX4_readDigits_41 : decode cX4_readDigits 41 = .ok (.getfield 19, 3) := by decide +kernel
theorem dX4_readDigits_44 : decode cX4_readDigits 44 = .ok (.iaload, 1) := by decide +kernel
theorem dX4_readDigits_45 : decode cX4_readDigits 45 = .ok (.invokestatic 94, 3) := by decide +kernel
theorem dX4_readDigits_48 : decode cX4_readDigits 48 = .ok (.ifCond .eq 45, 3) := by decide +kernel
theorem dX4_readDigits_51 : decode cX4_readDigits 51 = .ok (.aload_n 0, 1) := by decide +kernel
theorem dX4_readDigits_52 : decode cX4_readDigits 52 = .ok (.aload_n 0, 1) := by decide +kernel
theorem dX4_readDigits_53 : decode cX4_readDigits 53 = .ok (.getfield 73, 3) := by decide +kernel
theorem dX4_readDigits_56 : decode cX4_readDigits 56 = .ok (.bipush 10, 2) := by decide +kernel
theorem dX4_readDigits_58 : decode cX4_readDigits 58 = .ok (.imul, 1) := by decide +kernel
theorem dX4_readDigits_59 : decode cX4_readDigits 59 = .ok (.aload_n 0, 1) := by decide +kernel
theorem dX4_readDigits_60 : decode cX4_readDigits 60 = .ok (.getfield 9, 3) := by decide +kernel
theorem dX4_readDigits_63 : decode cX4_readDigits 63 = .ok (.aload_n 0, 1) := by decide +kernel
theorem dX4_readDigits_64 : decode cX4_readDigits 64 = .ok (.getfield 19, 3) := by decide +kernel
theorem dX4_readDigits_67 : decode cX4_readDigits 67 = .ok (.iaload, 1) := by decide +kernel
theorem dX4_readDigits_68 : decode cX4_readDigits 68 = .ok (.iadd, 1) := by decide +kernel
theorem dX4_readDigits_69 : decode cX4_readDigits 69 = .ok (.bipush 48, 2) := by decide +kernel
theorem dX4_readDigits_71 : decode cX4_readDigits 71 = .ok (.isub, 1) := by decide +kernel
theorem dX4_readDigits_72 : decode cX4_readDigits 72 = .ok (.bipush 100, 2) := by decide +kernel
theorem dX4_readDigits_74 : decode cX4_readDigits 74 = .ok (.invokestatic 101, 3) := by decide +kernel
theorem dX4_readDigits_77 : decode cX4_readDigits 77 = .ok (.putfield 73, 3) := by decide +kernel
theorem dX4_readDigits_80 : decode cX4_readDigits 80 = .ok (.aload_n 0, 1) := by decide +kernel
theorem dX4_readDigits_81 : decode cX4_readDigits 81 = .ok (.dup, 1) := by decide +kernel
theorem dX4_readDigits_82 : decode cX4_readDigits 82 = .ok (.getfield 19, 3) := by decide +kernel
theorem dX4_readDigits_85 : decode cX4_readDigits 85 = .ok (.iconst 1, 1) := by decide +kernel
theorem dX4_readDigits_86 : decode cX4_readDigits 86 = .ok (.iadd, 1) := by decide +kernel
theorem dX4_readDigits_87 : decode cX4_readDigits 87 = .ok (.putfield 19, 3) := by decide +kernel
theorem dX4_readDigits_90 : decode cX4_readDigits 90 = .ok (.goto (-65), 3) := by decide +kernel
theorem dX4_readDigits_93 : decode cX4_readDigits 93 = .ok (.iload_n 1, 1) := by decide +kernel
theorem dX4_readDigits_94 : decode cX4_readDigits 94 = .ok (.ifCond .eq 22, 3) := by decide +kernel
theorem dX4_readDigits_97 : decode cX4_readDigits 97 = .ok (.aload_n 0, 1) := by decide +kernel
theorem dX4_readDigits_98 : decode cX4_readDigits 98 = .ok (.getfield 19, 3) := by decide +kernel
theorem dX4_readDigits_101 : decode cX4_readDigits 101 = .ok (.aload_n 0, 1) := by decide +kernel
theorem dX4_readDigits_102 : decode cX4_readDigits 102 = .ok (.getfield 91, 3) := by decide +kernel
theorem dX4_readDigits_105 : decode cX4_readDigits 105 = .ok (.isub, 1) := by decide +kernel
theorem dX4_readDigits_106 : decode cX4_readDigits 106 = .ok (.iconst 1, 1) := by decide +kernel
theorem dX4_readDigits_107 : decode cX4_readDigits 107 = .ok (.if_icmp .le 9, 3) := by decide +kernel
theorem dX4_readDigits_110 : decode cX4_readDigits 110 = .ok (.aload_n 0, 1) := by decide +kernel
theorem dX4_readDigits_111 : decode cX4_readDigits 111 = .ok (.bipush 100, 2) := by decide +kernel
theorem dX4_readDigits_113 : decode cX4_readDigits 113 = .ok (.putfield 73, 3) := by decide +kernel
theorem dX4_readDigits_116 : decode cX4_readDigits 116 = .ok (.return_, 1) := by decide +kernel
theorem dX4_isDigit_0 : decode cX4_isDigit 0 = .ok (.iload_n 0, 1) := by decide +kernel
theorem dX4_isDigit_1 : decode cX4_isDigit 1 = .ok (.bipush 48, 2) := by decide +kernel
theorem dX4_isDigit_3 : decode cX4_isDigit 3 = .ok (.if_icmp .lt 13, 3) := by decide +kernel
theorem dX4_isDigit_6 : decode cX4_isDigit 6 = .ok (.iload_n 0, 1) := by decide +kernel
theorem dX4_isDigit_7 : decode cX4_isDigit 7 = .ok (.bipush 57, 2) := by decide +kernel
theorem dX4_isDigit_9 : decode cX4_isDigit 9 = .ok (.if_icmp .gt 7, 3) := by decide +kernel
theorem dX4_isDigit_12 : decode cX4_isDigit 12 = .ok (.iconst 1, 1) := by decide +kernel
theorem dX4_isDigit_13 : decode cX4_isDigit 13 = .ok (.goto 4, 3) := by decide +kernel
theorem dX4_isDigit_16 : decode cX4_isDigit 16 = .ok (.iconst 0, 1) := by decide +kernel
theorem dX4_isDigit_17 : decode cX4_isDigit 17 = .ok (.ireturn, 1) := by decide +kernel
set_option maxRecDepth 20000 in
theorem ggX5_init_X5_tellNothing : GoodIn wsX5_init wsX5_tellNothing := goodIn_r _ [12, 13, 14, 15, 16, 17, 18, 19, 20, 21, 22, 23, 24, 25] (by decide +kernel) (by decide +kernel)
set_option maxRecDepth 20000 in
theorem gX5_init_X5_tellNothing : GoodIn wsX5_init (wsV RX5 21 RX5 yX5_tellNothing wsX5_tellNothing) := goodIn_app (goodIn_of _ (by decide +kernel)) ggX5_init_X5_tellNothing
theorem dX5_init_0 : decode cX5_init 0 = .ok (.aload_n 0, 1) := by decide +kernel
theorem dX5_init_1 : decode cX5_init 1 = .ok (.invokespecial 3, 3) := by decide +kernel
theorem dX5_init_4 : decode cX5_init 4 = .ok (.aload_n 0, 1) := by decide +kernel
theorem dX5_init_5 : decode cX5_init 5 = .ok (.bipush 6, 2) := by decide +kernel
theorem dX5_init_7 : decode cX5_init 7 = .ok (.newarray .int, 2) := by decide +kernel
theorem dX5_init_9 : decode cX5_init 9 = .ok (.putfield 9, 3) := by decide +kernel
theorem dX5_init_12 : decode cX5_init 12 = .ok (.aload_n 0, 1) := by decide +kernel
theorem dX5_init_13 : decode cX5_init 13 = .ok (.iconst 5, 1) := by decide +kernel
theorem dX5_init_14 : decode cX5_init 14 = .ok (.newarray .int, 2) := by decide +kernel
theorem dX5_init_16 : decode cX5_init 16 = .ok (.putfield 15, 3) := by decide +kernel
theorem dX5_init_19 : decode cX5_init 19 = .ok (.aload_n 0, 1) := by decide +kernel
theorem dX5_init_20 : decode cX5_init 20 = .ok (.iconst 5, 1) := by decide +kernel
theorem dX5_init_21 : decode cX5_init 21 = .ok (.newarray .int, 2) := by decide +kernel
theorem dX5_init_23 : decode cX5_init 23 = .ok (.putfield 18, 3) := by decide +kernel
theorem dX5_init_26 : decode cX5_init 26 = .ok (.aload_n 0, 1) := by decide +kernel
theorem dX5_init_27 : decode cX5_init 27 = .ok (.invokevirtual 21, 3) := by decide +kernel
theorem dX5_init_30 : decode cX5_init 30 = .ok (.return_, 1) := by decide +kernel
theorem dX5_tellNothing_0 : decode cX5_tellNothing 0 = .ok (.aload_n 0, 1) := by decide +kernel
theorem dX5_tellNothing_1 : decode cX5_tellNothing 1 = .ok (.iconst 0, 1) := by decide +kernel
theorem dX5_tellNothing_2 : decode cX5_tellNothing 2 = .ok (.putfield 24, 3) := by decide +kernel
theorem dX5_tellNothing_5 : decode cX5_tellNothing 5 = .ok (.aload_n 0, 1) := by decide +kernel
theorem dX5_tellNothing_6 : decode cX5_tellNothing 6 = .ok (.iconst 0, 1) := by decide +kernel
theorem dX5_tellNothing_7 : decode cX5_tellNothing 7 = .ok (.putfield 28, 3) := by decide +kernel
theorem dX5_tellNothing_10 : decode cX5_tellNothing 10 = .ok (.aload_n 0, 1) := by decide +kernel
theorem dX5_tellNothing_11 : decode cX5_tellNothing 11 = .ok (.iconst 3, 1) := by decide +kernel
theorem dX5_tellNothing_12 : decode cX5_tellNothing 12 = .ok (.putfield 31, 3) := by decide +kernel
theorem dX5_tellNothing_15 : decode cX5_tellNothing 15 = .ok (.aload_n 0, 1) := by decide +kernel
theorem dX5_tellNothing_16 : decode cX5_tellNothing 16 = .ok (.iconst 0, 1) := by decide +kernel
theorem dX5_tellNothing_17 : decode cX5_tellNothing 17 = .ok (.putfield 34, 3) := by decide +kernel
theorem dX5_tellNothing_20 : decode cX5_tellNothing 20 = .ok (.aload_n 0, 1) := by decide +kernel
theorem dX5_tellNothing_21 : decode cX5_tellNothing 21 = .ok (.bipush 70, 2) := by decide +kernel
theorem dX5_tellNothing_23 : decode cX5_tellNothing 23 = .ok (.putfield 37, 3) := by decide +kernel
theorem dX5_tellNothing_26 : decode cX5_tellNothing 26 = .ok (.return_, 1) := by decide +kernel
theorem dX5_spans_0 : decode cX5_spans 0 = .ok (.aload_n 0, 1) := by decide +kernel
theorem dX5_spans_1 : decode cX5_spans 1 = .ok (.getfield 15, 3) := by decide +kernel
theorem dX5_spans_4 : decode cX5_spans 4 = .ok (.iload_n 1, 1) := by decide +kernel
theorem dX5_spans_5 : decode cX5_spans 5 = .ok (.iaload, 1) := by decide +kernel
theorem dX5_spans_6 : decode cX5_spans 6 = .ok (.iload_n 2, 1) := by decide +kernel
theorem dX5_spans_7 : decode cX5_spans 7 = .ok (.if_icmp .gt 17, 3) := by decide +kernel
theorem dX5_spans_10 : decode cX5_spans 10 = .ok (.iload_n 2, 1) := by decide +kernel
theorem dX5_spans_11 : decode cX5_spans 11 = .ok (.aload_n 0, 1) := by decide +kernel
theorem dX5_spans_12 : decode cX5_spans 12 = .ok (.getfield 18, 3) := by decide +kernel
theorem dX5_spans_15 : decode cX5_spans 15 = .ok (.iload_n 1, 1) := by decide +kernel
theorem dX5_spans_16 : decode cX5_spans 16 = .ok (.iaload, 1) := by decide +kernel
theorem dX5_spans_17 : decode cX5_spans 17 = .ok (.if_icmp .gt 7, 3) := by decide +kernel
theorem dX5_spans_20 : decode cX5_spans 20 = .ok (.iconst 1, 1) := by decide +kernel
theorem dX5_spans_21 : decode cX5_spans 21 = .ok (.goto 4, 3) := by decide +kernel
theorem dX5_spans_24 : decode cX5_spans 24 = .ok (.iconst 0, 1) := by decide +kernel
theorem dX5_spans_25 : decode cX5_spans 25 = .ok (.ireturn, 1) := by decide +kernel
set_option maxRecDepth 20000 in
theorem ggX5_does_X5_spans : GoodIn wsX5_does wsX5_spans := goodIn_r _ [6, 7, 8, 9, 10, 11, 12, 13, 14, 15, 16] (by decide +kernel) (by decide +kernel)
set_option maxRecDepth 20000 in
theorem gX5_does_X5_spans : GoodIn wsX5_does (wsV RX5 40 RX5 yX5_spans wsX5_spans) := goodIn_app (goodIn_of _ (by decide +kernel)) ggX5_does_X5_spans
theorem dX5_does_0 : decode cX5_does 0 = .ok (.iload_n 2, 1) := by decide +kernel
theorem dX5_does_1 : decode cX5_does 1 = .ok (.aload_n 0, 1) := by decide +kernel
theorem dX5_does_2 : decode cX5_does 2 = .ok (.getfield 37, 3) := by decide +kernel
theorem dX5_does_5 : decode cX5_does 5 = .ok (.if_icmp .ge 16, 3) := by decide +kernel
theorem dX5_does_8 : decode cX5_does 8 = .ok (.aload_n 0, 1) := by decide +kernel
theorem dX5_does_9 : decode cX5_does 9 = .ok (.iload_n 1, 1) := by decide +kernel
theorem dX5_does_10 : decode cX5_does 10 = .ok (.iload_n 2, 1) := by decide +kernel
theorem dX5_does_11 : decode cX5_does 11 = .ok (.invokevirtual 40, 3) := by decide +kernel
theorem dX5_does_14 : decode cX5_does 14 = .ok (.ifCond .eq 7, 3) := by decide +kernel
theorem dX5_does_17 : decode cX5_does 17 = .ok (.iconst 1, 1) := by decide +kernel
theorem dX5_does_18 : decode cX5_does 18 = .ok (.goto 4, 3) := by decide +kernel
theorem dX5_does_21 : decode cX5_does 21 = .ok (.iconst 0, 1) := by decide +kernel
theorem dX5_does_22 : decode cX5_does 22 = .ok (.ireturn, 1) := by decide +kernel
set_option maxRecDepth 20000 in
theorem ggX5_worksAt_X5_does : GoodIn wsX5_worksAt wsX5_does := goodIn_r _ [6, 7, 8, 9, 10, 5, 11, 12, 13, 17, 18, 19, 20, 21, 22, 23, 24] (by decide +kernel) (by decide +kernel)
set_option maxRecDepth 20000 in
theorem gX5_worksAt_X5_does : GoodIn wsX5_worksAt (wsV RX5 44 RX5 yX5_does wsX5_does) := goodIn_app (goodIn_of _ (by decide +kernel)) ggX5_worksAt_X5_does
set_option maxRecDepth 20000 in
theorem ggX5_worksAt_X6_bit : GoodIn wsX5_worksAt wsX6_bit := goodIn_r _ [16] (by decide +kernel) (by decide +kernel)
set_option maxRecDepth 20000 in
theorem gX5_worksAt_X6_bit_n47 : GoodIn wsX5_worksAt (wsX6_bit) := ggX5_worksAt_X6_bit
theorem dX5_worksAt_0 : decode cX5_worksAt 0 = .ok (.iconst 0, 1) := by decide +kernel
theorem dX5_worksAt_1 : decode cX5_worksAt 1 = .ok (.istore_n 2, 1) := by decide +kernel
theorem dX5_worksAt_2 : decode cX5_worksAt 2 = .ok (.iconst 0, 1) := by decide +kernel
theorem dX5_worksAt_3 : decode cX5_worksAt 3 = .ok (.istore_n 3, 1) := by decide +kernel
theorem dX5_worksAt_4 : decode cX5_worksAt 4 = .ok (.iload_n 3, 1) := by decide +kernel
theorem dX5_worksAt_5 : decode cX5_worksAt 5 = .ok (.aload_n 0, 1) := by decide +kernel
theorem dX5_worksAt_6 : decode cX5_worksAt 6 = .ok (.getfield 34, 3) := by decide +kernel
theorem dX5_worksAt_9 : decode cX5_worksAt 9 = .ok (.if_icmp .ge 25, 3) := by decide +kernel
theorem dX5_worksAt_12 : decode cX5_worksAt 12 = .ok (.aload_n 0, 1) := by decide +kernel
theorem dX5_worksAt_13 : decode cX5_worksAt 13 = .ok (.iload_n 3, 1) := by decide +kernel
theorem dX5_worksAt_14 : decode cX5_worksAt 14 = .ok (.iload_n 1, 1) := by decide +kernel
theorem dX5_worksAt_15 : decode cX5_worksAt 15 = .ok (.invokevirtual 44, 3) := by decide +kernel
theorem dX5_worksAt_18 : decode cX5_worksAt 18 = .ok (.ifCond .eq 10, 3) := by decide +kernel
theorem dX5_worksAt_21 : decode cX5_worksAt 21 = .ok (.iload_n 2, 1) := by decide +kernel
theorem dX5_worksAt_22 : decode cX5_worksAt 22 = .ok (.iload_n 3, 1) := by decide +kernel
theorem dX5_worksAt_23 : decode cX5_worksAt 23 = .ok (.invokestatic 47, 3) := by decide +kernel
theorem dX5_worksAt_26 : decode cX5_worksAt 26 = .ok (.ior, 1) := by decide +kernel
theorem dX5_worksAt_27 : decode cX5_worksAt 27 = .ok (.istore_n 2, 1) := by decide +kernel
theorem dX5_worksAt_28 : decode cX5_worksAt 28 = .ok (.iinc 3 1, 3) := by decide +kernel
theorem dX5_worksAt_31 : decode cX5_worksAt 31 = .ok (.goto (-27), 3) := by decide +kernel
theorem dX5_worksAt_34 : decode cX5_worksAt 34 = .ok (.iload_n 2, 1) := by decide +kernel
theorem dX5_worksAt_35 : decode cX5_worksAt 35 = .ok (.ireturn, 1) := by decide +kernel
set_option maxRecDepth 20000 in
theorem ggX6_init_X4_init : GoodIn wsX6_init wsX4_init := goodIn_r _ [34, 35, 2, 3, 36, 37, 38, 90, 91, 92, 93, 94, 95, 96, 97] (by decide +kernel) (by decide +kernel)
set_option maxRecDepth 20000 in
theorem gX6_init_X4_init_n9 : GoodIn wsX6_init (wsX4_init) := ggX6_init_X4_init
set_option maxRecDepth 20000 in
theorem ggX6_init_X1_init : GoodIn wsX6_init wsX1_init := goodIn_r _ [40, 41, 2, 3, 36, 42, 43, 44, 108, 109, 110, 111, 112, 113] (by decide +kernel) (by decide +kernel)
set_option maxRecDepth 20000 in
theorem gX6_init_X1_init_n18 : GoodIn wsX6_init (wsX1_init) := ggX6_init_X1_init
set_option maxRecDepth 20000 in
theorem ggX6_init_X2_init : GoodIn wsX6_init wsX2_init := goodIn_r _ [46, 47, 2, 3, 48, 49, 50, 51, 9, 10, 39, 40, 41, 36, 42, 43, 44, 114, 115, 116, 108, 109, 110, 111, 112, 113] (by decide +kernel) (by decide +kernel)
set_option maxRecDepth 20000 in
theorem gX6_init_X2_init_n25 : GoodIn wsX6_init (wsX2_init) := ggX6_init_X2_init
set_option maxRecDepth 20000 in
theorem ggX6_init_X0_init : GoodIn wsX6_init wsX0_init := goodIn_r _ [53, 54, 2, 3, 36, 55, 56, 57, 58, 59, 117, 118, 119, 120] (by decide +kernel) (by decide +kernel)
set_option maxRecDepth 20000 in
theorem gX6_init_X0_init_n40 : GoodIn wsX6_init (wsX0_init) := ggX6_init_X0_init
set_option maxRecDepth 20000 in
theorem ggX6_init_X3_init : GoodIn wsX6_init wsX3_init := goodIn_r _ [61, 62, 2, 3, 36, 63, 17, 64, 65, 121, 122, 123] (by decide +kernel) (by decide +kernel)
set_option maxRecDepth 20000 in
theorem gX6_init_X3_init_n47 : GoodIn wsX6_init (wsX3_init) := ggX6_init_X3_init
set_option maxRecDepth 20000 in
theorem ggX6_init_X5_init : GoodIn wsX6_init wsX5_init := goodIn_r _ [67, 68, 2, 3, 36, 69, 70, 71, 72, 73, 74, 29, 75, 76, 77, 78, 79, 80, 124, 125, 126, 127, 128, 129, 130, 131] (by decide +kernel) (by decide +kernel)
set_option maxRecDepth 20000 in
theorem gX6_init_X5_init_n54 : GoodIn wsX6_init (wsX5_init) := ggX6_init_X5_init
set_option maxRecDepth 20000 in
theorem ggX6_init_X1_begin : GoodIn wsX6_init wsX1_begin := goodIn_r _ [83, 84, 85, 86, 42, 43, 87, 88, 89, 108, 109, 110, 111, 112, 113, 124, 125, 126, 127, 128, 129, 130, 131] (by decide +kernel) (by decide +kernel)
set_option maxRecDepth 20000 in
theorem gX6_init_X1_begin_n66 : GoodIn wsX6_init (wsX1_begin) := ggX6_init_X1_begin
theorem dX6_init_0 : decode cX6_init 0 = .ok (.aload_n 0, 1) := by decide +kernel
theorem dX6_init_1 : decode cX6_init 1 = .ok (.invokespecial 1, 3) := by decide +kernel
theorem dX6_init_4 : decode cX6_init 4 = .ok (.aload_n 0, 1) := by decide +kernel
theorem dX6_init_5 : decode cX6_init 5 = .ok (.new 7, 3) := by decide +kernel
theorem dX6_init_8 : decode cX6_init 8 = .ok (.dup, 1) := by decide +kernel
theorem dX6_init_9 : decode cX6_init 9 = .ok (.invokespecial 9, 3) := by decide +kernel
theorem dX6_init_12 : decode cX6_init 12 = .ok (.putfield 10, 3) := by decide +kernel
theorem dX6_init_15 : decode cX6_init 15 = .ok (.aload_n 0, 1) := by decide +kernel
theorem dX6_init_16 : decode cX6_init 16 = .ok (.new 16, 3) := by decide +kernel
theorem dX6_init_19 : decode cX6_init 19 = .ok (.dup, 1) := by decide +kernel
theorem dX6_init_20 : decode cX6_init 20 = .ok (.invokespecial 18, 3) := by decide +kernel
theorem dX6_init_23 : decode cX6_init 23 = .ok (.putfield 19, 3) := by decide +kernel
theorem dX6_init_26 : decode cX6_init 26 = .ok (.aload_n 0, 1) := by decide +kernel
theorem dX6_init_27 : decode cX6_init 27 = .ok (.new 23, 3) := by decide +kernel
theorem dX6_init_30 : decode cX6_init 30 = .ok (.dup, 1) := by decide +kernel
theorem dX6_init_31 : decode cX6_init 31 = .ok (.invokespecial 25, 3) := by decide +kernel
theorem dX6_init_34 : decode cX6_init 34 = .ok (.putfield 26, 3) := by decide +kernel
theorem dX6_init_37 : decode cX6_init 37 = .ok (.aload_n 0, 1) := by decide +kernel
theorem dX6_init_38 : decode cX6_init 38 = .ok (.iconst 2, 1) := by decide +kernel
theorem dX6_init_39 : decode cX6_init 39 = .ok (.anewarray 16, 3) := by decide +kernel
theorem dX6_init_42 : decode cX6_init 42 = .ok (.putfield 30, 3) := by decide +kernel
theorem dX6_init_45 : decode cX6_init 45 = .ok (.aload_n 0, 1) := by decide +kernel
theorem dX6_init_46 : decode cX6_init 46 = .ok (.iconst 2, 1) := by decide +kernel
theorem dX6_init_47 : decode cX6_init 47 = .ok (.newarray .boolean, 2) := by decide +kernel
theorem dX6_init_49 : decode cX6_init 49 = .ok (.putfield 34, 3) := by decide +kernel
theorem dX6_init_52 : decode cX6_init 52 = .ok (.aload_n 0, 1) := by decide +kernel
theorem dX6_init_53 : decode cX6_init 53 = .ok (.new 38, 3) := by decide +kernel
theorem dX6_init_56 : decode cX6_init 56 = .ok (.dup, 1) := by decide +kernel
theorem dX6_init_57 : decode cX6_init 57 = .ok (.invokespecial 40, 3) := by decide +kernel
theorem dX6_init_60 : decode cX6_init 60 = .ok (.putfield 41, 3) := by decide +kernel
theorem dX6_init_63 : decode cX6_init 63 = .ok (.aload_n 0, 1) := by decide +kernel
theorem dX6_init_64 : decode cX6_init 64 = .ok (.new 45, 3) := by decide +kernel
theorem dX6_init_67 : decode cX6_init 67 = .ok (.dup, 1) := by decide +kernel
theorem dX6_init_68 : decode cX6_init 68 = .ok (.invokespecial 47, 3) := by decide +kernel
theorem dX6_init_71 : decode cX6_init 71 = .ok (.putfield 48, 3) := by decide +kernel
theorem dX6_init_74 : decode cX6_init 74 = .ok (.aload_n 0, 1) := by decide +kernel
theorem dX6_init_75 : decode cX6_init 75 = .ok (.new 52, 3) := by decide +kernel
theorem dX6_init_78 : decode cX6_init 78 = .ok (.dup, 1) := by decide +kernel
theorem dX6_init_79 : decode cX6_init 79 = .ok (.invokespecial 54, 3) := by decide +kernel
theorem dX6_init_82 : decode cX6_init 82 = .ok (.putfield 55, 3) := by decide +kernel
theorem dX6_init_85 : decode cX6_init 85 = .ok (.aload_n 0, 1) := by decide +kernel
theorem dX6_init_86 : decode cX6_init 86 = .ok (.new 52, 3) := by decide +kernel
theorem dX6_init_89 : decode cX6_init 89 = .ok (.dup, 1) := by decide +kernel
theorem dX6_init_90 : decode cX6_init 90 = .ok (.invokespecial 54, 3) := by decide +kernel
theorem dX6_init_93 : decode cX6_init 93 = .ok (.putfield 59, 3) := by decide +kernel
theorem dX6_init_96 : decode cX6_init 96 = .ok (.aload_n 0, 1) := by decide +kernel
theorem dX6_init_97 : decode cX6_init 97 = .ok (.lconst 0, 1) := by decide +kernel
theorem dX6_init_98 : decode cX6_init 98 = .ok (.putfield 62, 3) := by decide +kernel
theorem dX6_init_101 : decode cX6_init 101 = .ok (.iconst 0, 1) := by decide +kernel
theorem dX6_init_102 : decode cX6_init 102 = .ok (.istore_n 1, 1) := by decide +kernel
theorem dX6_init_103 : decode cX6_init 103 = .ok (.iload_n 1, 1) := by decide +kernel
theorem dX6_init_104 : decode cX6_init 104 = .ok (.iconst 2, 1) := by decide +kernel
theorem dX6_init_105 : decode cX6_init 105 = .ok (.if_icmp .ge 22, 3) := by decide +kernel
theorem dX6_init_108 : decode cX6_init 108 = .ok (.aload_n 0, 1) := by decide +kernel
theorem dX6_init_109 : decode cX6_init 109 = .ok (.getfield 30, 3) := by decide +kernel
theorem dX6_init_112 : decode cX6_init 112 = .ok (.iload_n 1, 1) := by decide +kernel
theorem dX6_init_113 : decode cX6_init 113 = .ok (.new 16, 3) := by decide +kernel
theorem dX6_init_116 : decode cX6_init 116 = .ok (.dup, 1) := by decide +kernel
theorem dX6_init_117 : decode cX6_init 117 = .ok (.invokespecial 18, 3) := by decide +kernel
theorem dX6_init_120 : decode cX6_init 120 = .ok (.aastore, 1) := by decide +kernel
theorem dX6_init_121 : decode cX6_init 121 = .ok (.iinc 1 1, 3) := by decide +kernel
theorem dX6_init_124 : decode cX6_init 124 = .ok (.goto (-21), 3) := by decide +kernel
theorem dX6_init_127 : decode cX6_init 127 = .ok (.aload_n 0, 1) := by decide +kernel
theorem dX6_init_128 : decode cX6_init 128 = .ok (.getfield 19, 3) := by decide +kernel
theorem dX6_init_131 : decode cX6_init 131 = .ok (.aload_n 0, 1) := by decide +kernel
theorem dX6_init_132 : decode cX6_init 132 = .ok (.getfield 55, 3) := by decide +kernel
theorem dX6_init_135 : decode cX6_init 135 = .ok (.invokevirtual 66, 3) := by decide +kernel
theorem dX6_init_138 : decode cX6_init 138 = .ok (.return_, 1) := by decide +kernel
set_option maxRecDepth 20000 in
theorem ggX6_type_X4_add : GoodIn wsX6_type wsX4_add := goodIn_r _ [5, 6, 7, 18, 19, 20, 21, 22, 23, 24, 25] (by decide +kernel) (by decide +kernel)
set_option maxRecDepth 20000 in
theorem gX6_type_X4_add_n74 : GoodIn wsX6_type (wsX4_add) := ggX6_type_X4_add
theorem dX6_type_0 : decode cX6_type 0 = .ok (.iload_n 1, 1) := by decide +kernel
theorem dX6_type_1 : decode cX6_type 1 = .ok (.ifCond .lt 10, 3) := by decide +kernel
theorem dX6_type_4 : decode cX6_type 4 = .ok (.iload_n 1, 1) := by decide +kernel
theorem dX6_type_5 : decode cX6_type 5 = .ok (.sipush 255, 3) := by decide +kernel
theorem dX6_type_8 : decode cX6_type 8 = .ok (.if_icmp .le 5, 3) := by decide +kernel
theorem dX6_type_11 : decode cX6_type 11 = .ok (.iconst (-1), 1) := by decide +kernel
theorem dX6_type_12 : decode cX6_type 12 = .ok (.ireturn, 1) := by decide +kernel
theorem dX6_type_13 : decode cX6_type 13 = .ok (.aload_n 0, 1) := by decide +kernel
theorem dX6_type_14 : decode cX6_type 14 = .ok (.getfield 10, 3) := by decide +kernel
theorem dX6_type_17 : decode cX6_type 17 = .ok (.getfield 70, 3) := by decide +kernel
theorem dX6_type_20 : decode cX6_type 20 = .ok (.bipush 120, 2) := by decide +kernel
theorem dX6_type_22 : decode cX6_type 22 = .ok (.if_icmp .lt 6, 3) := by decide +kernel
theorem dX6_type_25 : decode cX6_type 25 = .ok (.bipush (-3), 2) := by decide +kernel
theorem dX6_type_27 : decode cX6_type 27 = .ok (.ireturn, 1) := by decide +kernel
theorem dX6_type_28 : decode cX6_type 28 = .ok (.aload_n 0, 1) := by decide +kernel
theorem dX6_type_29 : decode cX6_type 29 = .ok (.getfield 10, 3) := by decide +kernel
theorem dX6_type_32 : decode cX6_type 32 = .ok (.iload_n 1, 1) := by decide +kernel
theorem dX6_type_33 : decode cX6_type 33 = .ok (.invokevirtual 74, 3) := by decide +kernel
theorem dX6_type_36 : decode cX6_type 36 = .ok (.aload_n 0, 1) := by decide +kernel
theorem dX6_type_37 : decode cX6_type 37 = .ok (.getfield 10, 3) := by decide +kernel
theorem dX6_type_40 : decode cX6_type 40 = .ok (.getfield 70, 3) := by decide +kernel
theorem dX6_type_43 : decode cX6_type 43 = .ok (.ireturn, 1) := by decide +kernel
theorem dX6_clear_0 : decode cX6_clear 0 = .ok (.aload_n 0, 1) := by decide +kernel
theorem dX6_clear_1 : decode cX6_clear 1 = .ok (.getfield 10, 3) := by decide +kernel
theorem dX6_clear_4 : decode cX6_clear 4 = .ok (.getfield 70, 3) := by decide +kernel
theorem dX6_clear_7 : decode cX6_clear 7 = .ok (.istore_n 1, 1) := by decide +kernel
theorem dX6_clear_8 : decode cX6_clear 8 = .ok (.aload_n 0, 1) := by decide +kernel
theorem dX6_clear_9 : decode cX6_clear 9 = .ok (.getfield 10, 3) := by decide +kernel
theorem dX6_clear_12 : decode cX6_clear 12 = .ok (.iconst 0, 1) := by decide +kernel
theorem dX6_clear_13 : decode cX6_clear 13 = .ok (.putfield 70, 3) := by decide +kernel
theorem dX6_clear_16 : decode cX6_clear 16 = .ok (.iload_n 1, 1) := by decide +kernel
theorem dX6_clear_17 : decode cX6_clear 17 = .ok (.ireturn, 1) := by decide +kernel
set_option maxRecDepth 20000 in
theorem ggX6_town_X4_reads : GoodIn wsX6_town wsX4_reads := goodIn_r _ [7, 8, 9, 10, 11, 12, 13, 14, 15, 16, 17, 18, 19, 20, 21, 22, 23, 24, 5, 25, 26, 27, 28, 29, 30, 31, 32, 33, 34, 35, 36, 37, 38, 39, 40, 41, 42, 43, 44, 45, 46, 47, 48, 49, 50, 51, 52, 53, 54, 55, 56, 57, 58, 59, 60, 61, 62, 63, 64, 65, 66, 67, 98, 99, 100, 101, 102, 103, 104, 105, 106, 107, 108, 109, 110, 111, 112, 113] (by decide +kernel) (by decide +kernel)
set_option maxRecDepth 20000 in
theorem gX6_town_X4_reads_n78 : GoodIn wsX6_town (wsX4_reads) := ggX6_town_X4_reads
set_option maxRecDepth 20000 in
theorem ggX6_town_X6_beginAnew : GoodIn wsX6_town wsX6_beginAnew := goodIn_r _ [72, 73, 3, 74, 75, 76, 77, 78, 79, 80, 81, 82, 83, 84, 85, 86, 71, 87, 88, 89, 90, 91, 92, 93, 94, 95, 96, 97, 114, 115, 116, 117, 118, 119, 120, 121, 122, 123, 124, 125, 106, 107, 108, 109, 110, 111, 112, 113] (by decide +kernel) (by decide +kernel)
set_option maxRecDepth 20000 in
theorem gX6_town_X6_beginAnew : GoodIn wsX6_town (wsV RX6 85 RX6 yX6_beginAnew wsX6_beginAnew) := goodIn_app (goodIn_of _ (by decide +kernel)) ggX6_town_X6_beginAnew
theorem dX6_town_0 : decode cX6_town 0 = .ok (.aload_n 0, 1) := by decide +kernel
theorem dX6_town_1 : decode cX6_town 1 = .ok (.getfield 10, 3) := by decide +kernel
theorem dX6_town_4 : decode cX6_town 4 = .ok (.aload_n 0, 1) := by decide +kernel
theorem dX6_town_5 : decode cX6_town 5 = .ok (.getfield 59, 3) := by decide +kernel
theorem dX6_town_8 : decode cX6_town 8 = .ok (.invokevirtual 78, 3) := by decide +kernel
theorem dX6_town_11 : decode cX6_town 11 = .ok (.ifCond .ne 14, 3) := by decide +kernel
theorem dX6_town_14 : decode cX6_town 14 = .ok (.bipush (-10), 2) := by decide +kernel
theorem dX6_town_16 : decode cX6_town 16 = .ok (.aload_n 0, 1) := by decide +kernel
theorem dX6_town_17 : decode cX6_town 17 = .ok (.getfield 10, 3) := by decide +kernel
theorem dX6_town_20 : decode cX6_town 20 = .ok (.getfield 82, 3) := by decide +kernel
theorem dX6_town_23 : decode cX6_town 23 = .ok (.isub, 1) := by decide +kernel
theorem dX6_town_24 : decode cX6_town 24 = .ok (.ireturn, 1) := by decide +kernel
theorem dX6_town_25 : decode cX6_town 25 = .ok (.aload_n 0, 1) := by decide +kernel
theorem dX6_town_26 : decode cX6_town 26 = .ok (.getfield 55, 3) := by decide +kernel
theorem dX6_town_29 : decode cX6_town 29 = .ok (.astore_n 1, 1) := by decide +kernel
theorem dX6_town_30 : decode cX6_town 30 = .ok (.aload_n 0, 1) := by decide +kernel
theorem dX6_town_31 : decode cX6_town 31 = .ok (.aload_n 0, 1) := by decide +kernel
theorem dX6_town_32 : decode cX6_town 32 = .ok (.getfield 59, 3) := by decide +kernel
theorem dX6_town_35 : decode cX6_town 35 = .ok (.putfield 55, 3) := by decide +kernel
theorem dX6_town_38 : decode cX6_town 38 = .ok (.aload_n 0, 1) := by decide +kernel
theorem dX6_town_39 : decode cX6_town 39 = .ok (.aload_n 1, 1) := by decide +kernel
theorem dX6_town_40 : decode cX6_town 40 = .ok (.putfield 59, 3) := by decide +kernel
theorem dX6_town_43 : decode cX6_town 43 = .ok (.aload_n 0, 1) := by decide +kernel
theorem dX6_town_44 : decode cX6_town 44 = .ok (.getfield 10, 3) := by decide +kernel
theorem dX6_town_47 : decode cX6_town 47 = .ok (.iconst 0, 1) := by decide +kernel
theorem dX6_town_48 : decode cX6_town 48 = .ok (.putfield 70, 3) := by decide +kernel
theorem dX6_town_51 : decode cX6_town 51 = .ok (.aload_n 0, 1) := by decide +kernel
theorem dX6_town_52 : decode cX6_town 52 = .ok (.invokevirtual 85, 3) := by decide +kernel
theorem dX6_town_55 : decode cX6_town 55 = .ok (.aload_n 0, 1) := by decide +kernel
theorem dX6_town_56 : decode cX6_town 56 = .ok (.getfield 55, 3) := by decide +kernel
theorem dX6_town_59 : decode cX6_town 59 = .ok (.getfield 88, 3) := by decide +kernel
theorem dX6_town_62 : decode cX6_town 62 = .ok (.ireturn, 1) := by decide +kernel
set_option maxRecDepth 20000 in
theorem ggX6_room_X6_isRoom : GoodIn wsX6_room wsX6_isRoom := goodIn_r _ [6, 7, 23, 24, 25, 26, 27, 28, 29, 30, 31, 32, 39, 40, 41, 42, 43, 44, 45, 46] (by decide +kernel) (by decide +kernel)
set_option maxRecDepth 20000 in
theorem gX6_room_X6_isRoom : GoodIn wsX6_room (wsV RX6 91 RX6 yX6_isRoom wsX6_isRoom) := goodIn_app (goodIn_of _ (by decide +kernel)) ggX6_room_X6_isRoom
set_option maxRecDepth 20000 in
theorem ggX6_room_X1_ageOfRoom : GoodIn wsX6_room wsX1_ageOfRoom := goodIn_r _ [11, 12, 13, 14, 15, 9, 16, 17, 18, 5, 19, 20, 21, 22, 33, 34, 35, 36, 37, 38] (by decide +kernel) (by decide +kernel)
set_option maxRecDepth 20000 in
theorem gX6_room_X1_ageOfRoom_n99 : GoodIn wsX6_room (wsX1_ageOfRoom) := ggX6_room_X1_ageOfRoom
theorem dX6_room_0 : decode cX6_room 0 = .ok (.aload_n 0, 1) := by decide +kernel
theorem dX6_room_1 : decode cX6_room 1 = .ok (.iload_n 1, 1) := by decide +kernel
theorem dX6_room_2 : decode cX6_room 2 = .ok (.invokevirtual 91, 3) := by decide +kernel
theorem dX6_room_5 : decode cX6_room 5 = .ok (.ifCond .ne 5, 3) := by decide +kernel
theorem dX6_room_8 : decode cX6_room 8 = .ok (.iconst (-1), 1) := by decide +kernel
theorem dX6_room_9 : decode cX6_room 9 = .ok (.ireturn, 1) := by decide +kernel
theorem dX6_room_10 : decode cX6_room 10 = .ok (.iload_n 2, 1) := by decide +kernel
theorem dX6_room_11 : decode cX6_room 11 = .ok (.tableswitch 54 0 2 #[25, 35, 44], 25) := by decide +kernel
theorem dX6_room_36 : decode cX6_room 36 = .ok (.aload_n 0, 1) := by decide +kernel
theorem dX6_room_37 : decode cX6_room 37 = .ok (.getfield 19, 3) := by decide +kernel
theorem dX6_room_40 : decode cX6_room 40 = .ok (.getfield 95, 3) := by decide +kernel
theorem dX6_room_43 : decode cX6_room 43 = .ok (.iload_n 1, 1) := by decide +kernel
theorem dX6_room_44 : decode cX6_room 44 = .ok (.iaload, 1) := by decide +kernel
theorem dX6_room_45 : decode cX6_room 45 = .ok (.ireturn, 1) := by decide +kernel
theorem dX6_room_46 : decode cX6_room 46 = .ok (.aload_n 0, 1) := by decide +kernel
theorem dX6_room_47 : decode cX6_room 47 = .ok (.getfield 19, 3) := by decide +kernel
theorem dX6_room_50 : decode cX6_room 50 = .ok (.iload_n 1, 1) := by decide +kernel
theorem dX6_room_51 : decode cX6_room 51 = .ok (.invokevirtual 99, 3) := by decide +kernel
theorem dX6_room_54 : decode cX6_room 54 = .ok (.ireturn, 1) := by decide +kernel
theorem dX6_room_55 : decode cX6_room 55 = .ok (.aload_n 0, 1) := by decide +kernel
theorem dX6_room_56 : decode cX6_room 56 = .ok (.getfield 19, 3) := by decide +kernel
theorem dX6_room_59 : decode cX6_room 59 = .ok (.getfield 103, 3) := by decide +kernel
theorem dX6_room_62 : decode cX6_room 62 = .ok (.iload_n 1, 1) := by decide +kernel
theorem dX6_room_63 : decode cX6_room 63 = .ok (.iaload, 1) := by decide +kernel
theorem dX6_room_64 : decode cX6_room 64 = .ok (.ireturn, 1) := by decide +kernel
theorem dX6_room_65 : decode cX6_room 65 = .ok (.iconst (-1), 1) := by decide +kernel
theorem dX6_room_66 : decode cX6_room 66 = .ok (.ireturn, 1) := by decide +kernel
set_option maxRecDepth 20000 in
theorem ggX6_child_X6_isMother : GoodIn wsX6_child wsX6_isMother := goodIn_r _ [6, 7, 34, 35, 36, 37, 38, 39, 40, 41, 42, 43, 50, 51, 52, 53, 54, 55, 56, 57] (by decide +kernel) (by decide +kernel)
set_option maxRecDepth 20000 in
theorem gX6_child_X6_isMother : GoodIn wsX6_child (wsV RX6 106 RX6 yX6_isMother wsX6_isMother) := goodIn_app (goodIn_of _ (by decide +kernel)) ggX6_child_X6_isMother
set_option maxRecDepth 20000 in
theorem ggX6_child_X6_has : GoodIn wsX6_child wsX6_has := goodIn_r _ [10, 11, 12, 5, 13] (by decide +kernel) (by decide +kernel)
set_option maxRecDepth 20000 in
theorem gX6_child_X6_has : GoodIn wsX6_child (va_wsS RX6 112 yX6_has wsX6_has) := goodIn_app (goodIn_of _ (by decide +kernel)) ggX6_child_X6_has
set_option maxRecDepth 20000 in
theorem ggX6_child_X6_worksOfChild : GoodIn wsX6_child wsX6_worksOfChild := goodIn_r _ [17, 1, 7, 8, 9, 5, 10, 11, 12, 13, 18, 19, 20, 21, 22, 23, 24, 25, 26, 27, 28, 29, 30, 31, 32, 33, 34, 35, 36, 37, 38, 39, 40, 41, 42, 43, 44, 45, 46, 47, 48, 49, 50, 51, 52, 53, 54, 55, 56, 57] (by decide +kernel) (by decide +kernel)
set_option maxRecDepth 20000 in
theorem gX6_child_X6_worksOfChild : GoodIn wsX6_child (wsV RX6 122 RX6 yX6_worksOfChild wsX6_worksOfChild) := goodIn_app (goodIn_of _ (by decide +kernel)) ggX6_child_X6_worksOfChild
theorem dX6_child_0 : decode cX6_child 0 = .ok (.aload_n 0, 1) := by decide +kernel
theorem dX6_child_1 : decode cX6_child 1 = .ok (.iload_n 1, 1) := by decide +kernel
theorem dX6_child_2 : decode cX6_child 2 = .ok (.invokevirtual 106, 3) := by decide +kernel
theorem dX6_child_5 : decode cX6_child 5 = .ok (.ifCond .ne 5, 3) := by decide +kernel
theorem dX6_child_8 : decode cX6_child 8 = .ok (.iconst (-1), 1) := by decide +kernel
theorem dX6_child_9 : decode cX6_child 9 = .ok (.ireturn, 1) := by decide +kernel
theorem dX6_child_10 : decode cX6_child 10 = .ok (.iload_n 2, 1) := by decide +kernel
theorem dX6_child_11 : decode cX6_child 11 = .ok (.tableswitch 104 0 3 #[29, 49, 69, 98], 29) := by decide +kernel
theorem dX6_child_40 : decode cX6_child 40 = .ok (.aload_n 0, 1) := by decide +kernel
theorem dX6_child_41 : decode cX6_child 41 = .ok (.getfield 19, 3) := by decide +kernel
theorem dX6_child_44 : decode cX6_child 44 = .ok (.getfield 109, 3) := by decide +kernel
theorem dX6_child_47 : decode cX6_child 47 = .ok (.iload_n 1, 1) := by decide +kernel
theorem dX6_child_48 : decode cX6_child 48 = .ok (.invokestatic 112, 3) := by decide +kernel
theorem dX6_child_51 : decode cX6_child 51 = .ok (.ifCond .eq 7, 3) := by decide +kernel
theorem dX6_child_54 : decode cX6_child 54 = .ok (.iconst 1, 1) := by decide +kernel
theorem dX6_child_55 : decode cX6_child 55 = .ok (.goto 4, 3) := by decide +kernel
theorem dX6_child_58 : decode cX6_child 58 = .ok (.iconst 0, 1) := by decide +kernel
theorem dX6_child_59 : decode cX6_child 59 = .ok (.ireturn, 1) := by decide +kernel
theorem dX6_child_60 : decode cX6_child 60 = .ok (.aload_n 0, 1) := by decide +kernel
theorem dX6_child_61 : decode cX6_child 61 = .ok (.getfield 19, 3) := by decide +kernel
theorem dX6_child_64 : decode cX6_child 64 = .ok (.getfield 116, 3) := by decide +kernel
theorem dX6_child_67 : decode cX6_child 67 = .ok (.iload_n 1, 1) := by decide +kernel
theorem dX6_child_68 : decode cX6_child 68 = .ok (.invokestatic 112, 3) := by decide +kernel
theorem dX6_child_71 : decode cX6_child 71 = .ok (.ifCond .eq 7, 3) := by decide +kernel
theorem dX6_child_74 : decode cX6_child 74 = .ok (.iconst 1, 1) := by decide +kernel
theorem dX6_child_75 : decode cX6_child 75 = .ok (.goto 4, 3) := by decide +kernel
theorem dX6_child_78 : decode cX6_child 78 = .ok (.iconst 0, 1) := by decide +kernel
theorem dX6_child_79 : decode cX6_child 79 = .ok (.ireturn, 1) := by decide +kernel
theorem dX6_child_80 : decode cX6_child 80 = .ok (.aload_n 0, 1) := by decide +kernel
theorem dX6_child_81 : decode cX6_child 81 = .ok (.getfield 19, 3) := by decide +kernel
theorem dX6_child_84 : decode cX6_child 84 = .ok (.getfield 116, 3) := by decide +kernel
theorem dX6_child_87 : decode cX6_child 87 = .ok (.iload_n 1, 1) := by decide +kernel
theorem dX6_child_88 : decode cX6_child 88 = .ok (.invokestatic 112, 3) := by decide +kernel
theorem dX6_child_91 : decode cX6_child 91 = .ok (.ifCond .eq 15, 3) := by decide +kernel
theorem dX6_child_94 : decode cX6_child 94 = .ok (.aload_n 0, 1) := by decide +kernel
theorem dX6_child_95 : decode cX6_child 95 = .ok (.getfield 19, 3) := by decide +kernel
theorem dX6_child_98 : decode cX6_child 98 = .ok (.getfield 119, 3) := by decide +kernel
theorem dX6_child_101 : decode cX6_child 101 = .ok (.iload_n 1, 1) := by decide +kernel
theorem dX6_child_102 : decode cX6_child 102 = .ok (.iaload, 1) := by decide +kernel
theorem dX6_child_103 : decode cX6_child 103 = .ok (.goto 5, 3) := by decide +kernel
theorem dX6_child_106 : decode cX6_child 106 = .ok (.bipush (-9), 2) := by decide +kernel
theorem dX6_child_108 : decode cX6_child 108 = .ok (.ireturn, 1) := by decide +kernel
theorem dX6_child_109 : decode cX6_child 109 = .ok (.aload_n 0, 1) := by decide +kernel
theorem dX6_child_110 : decode cX6_child 110 = .ok (.iload_n 1, 1) := by decide +kernel
theorem dX6_child_111 : decode cX6_child 111 = .ok (.invokevirtual 122, 3) := by decide +kernel
theorem dX6_child_114 : decode cX6_child 114 = .ok (.ireturn, 1) := by decide +kernel
theorem dX6_child_115 : decode cX6_child 115 = .ok (.iconst (-1), 1) := by decide +kernel
theorem dX6_child_116 : decode cX6_child 116 = .ok (.ireturn, 1) := by decide +kernel
set_option maxRecDepth 20000 in
theorem ggX6_work_X6_isWork : GoodIn wsX6_work wsX6_isWork := goodIn_r _ [6, 1, 33, 34, 35, 36, 37, 38, 39, 40, 41, 42, 43, 44, 45, 46, 47, 48, 49, 50] (by decide +kernel) (by decide +kernel)
set_option maxRecDepth 20000 in
theorem gX6_work_X6_isWork : GoodIn wsX6_work (wsV RX6 125 RX6 yX6_isWork wsX6_isWork) := goodIn_app (goodIn_of _ (by decide +kernel)) ggX6_work_X6_isWork
set_option maxRecDepth 20000 in
theorem ggX6_work_X6_whoCanDo : GoodIn wsX6_work wsX6_whoCanDo := goodIn_r _ [10, 1, 11, 12, 13, 5, 14, 15, 16, 17, 18, 19, 20, 21, 22, 23, 24, 25, 26, 27, 28, 33, 34, 35, 36, 37, 38, 39, 40, 41, 42, 43, 44, 45, 46, 47, 48, 49, 50, 51, 52, 53, 54, 55, 56] (by decide +kernel) (by decide +kernel)
set_option maxRecDepth 20000 in
theorem gX6_work_X6_whoCanDo : GoodIn wsX6_work (wsV RX6 134 RX6 yX6_whoCanDo wsX6_whoCanDo) := goodIn_app (goodIn_of _ (by decide +kernel)) ggX6_work_X6_whoCanDo
set_option maxRecDepth 20000 in
theorem ggX6_work_X6_yearsUntilNobody : GoodIn wsX6_work wsX6_yearsUntilNobody := goodIn_r _ [32, 7, 8, 9, 5, 10, 1, 11, 12, 13, 14, 15, 16, 17, 18, 19, 20, 21, 22, 23, 24, 25, 26, 27, 28, 33, 34, 35, 36, 37, 38, 39, 40, 41, 42, 43, 44, 45, 46, 47, 48, 49, 50, 51, 52, 53, 54, 55, 56] (by decide +kernel) (by decide +kernel)
set_option maxRecDepth 20000 in
theorem gX6_work_X6_yearsUntilNobody : GoodIn wsX6_work (wsV RX6 138 RX6 yX6_yearsUntilNobody wsX6_yearsUntilNobody) := goodIn_app (goodIn_of _ (by decide +kernel)) ggX6_work_X6_yearsUntilNobody
theorem dX6_work_0 : decode cX6_work 0 = .ok (.aload_n 0, 1) := by decide +kernel
theorem dX6_work_1 : decode cX6_work 1 = .ok (.iload_n 1, 1) := by decide +kernel
theorem dX6_work_2 : decode cX6_work 2 = .ok (.invokevirtual 125, 3) := by decide +kernel
theorem dX6_work_5 : decode cX6_work 5 = .ok (.ifCond .ne 5, 3) := by decide +kernel
theorem dX6_work_8 : decode cX6_work 8 = .ok (.iconst (-1), 1) := by decide +kernel
theorem dX6_work_9 : decode cX6_work 9 = .ok (.ireturn, 1) := by decide +kernel
theorem dX6_work_10 : decode cX6_work 10 = .ok (.iload_n 2, 1) := by decide +kernel
theorem dX6_work_11 : decode cX6_work 11 = .ok (.tableswitch 62 0 3 #[29, 39, 49, 56], 29) := by decide +kernel
theorem dX6_work_40 : decode cX6_work 40 = .ok (.aload_n 0, 1) := by decide +kernel
theorem dX6_work_41 : decode cX6_work 41 = .ok (.getfield 55, 3) := by decide +kernel
theorem dX6_work_44 : decode cX6_work 44 = .ok (.getfield 128, 3) := by decide +kernel
theorem dX6_work_47 : decode cX6_work 47 = .ok (.iload_n 1, 1) := by decide +kernel
theorem dX6_work_48 : decode cX6_work 48 = .ok (.iaload, 1) := by decide +kernel
theorem dX6_work_49 : decode cX6_work 49 = .ok (.ireturn, 1) := by decide +kernel
theorem dX6_work_50 : decode cX6_work 50 = .ok (.aload_n 0, 1) := by decide +kernel
theorem dX6_work_51 : decode cX6_work 51 = .ok (.getfield 55, 3) := by decide +kernel
theorem dX6_work_54 : decode cX6_work 54 = .ok (.getfield 131, 3) := by decide +kernel
theorem dX6_work_57 : decode cX6_work 57 = .ok (.iload_n 1, 1) := by decide +kernel
theorem dX6_work_58 : decode cX6_work 58 = .ok (.iaload, 1) := by decide +kernel
theorem dX6_work_59 : decode cX6_work 59 = .ok (.ireturn, 1) := by decide +kernel
theorem dX6_work_60 : decode cX6_work 60 = .ok (.aload_n 0, 1) := by decide +kernel
theorem dX6_work_61 : decode cX6_work 61 = .ok (.iload_n 1, 1) := by decide +kernel
theorem dX6_work_62 : decode cX6_work 62 = .ok (.iconst 0, 1) := by decide +kernel
theorem dX6_work_63 : decode cX6_work 63 = .ok (.invokevirtual 134, 3) := by decide +kernel
theorem dX6_work_66 : decode cX6_work 66 = .ok (.ireturn, 1) := by decide +kernel
theorem dX6_work_67 : decode cX6_work 67 = .ok (.aload_n 0, 1) := by decide +kernel
theorem dX6_work_68 : decode cX6_work 68 = .ok (.iload_n 1, 1) := by decide +kernel
theorem dX6_work_69 : decode cX6_work 69 = .ok (.invokevirtual 138, 3) := by decide +kernel
theorem dX6_work_72 : decode cX6_work 72 = .ok (.ireturn, 1) := by decide +kernel
theorem dX6_work_73 : decode cX6_work 73 = .ok (.iconst (-1), 1) := by decide +kernel
theorem dX6_work_74 : decode cX6_work 74 = .ok (.ireturn, 1) := by decide +kernel
set_option maxRecDepth 20000 in
theorem ggX6_now_X6_mostFilled : GoodIn wsX6_now wsX6_mostFilled := goodIn_r _ [7, 8, 9, 10, 11, 6, 12, 13, 14, 15, 16, 17, 1, 18, 19, 20, 21, 22, 23, 24, 25, 26, 27, 28, 29, 30, 31, 32, 33, 34, 35, 36, 37, 38, 39, 40, 41, 42, 43, 44, 45, 46, 47, 48, 49, 50, 51, 52, 53, 54, 55, 56, 57, 58, 59, 60, 61, 62, 63, 64, 65, 66, 67, 68, 69, 79, 80, 81, 82, 83, 84, 85, 86, 87, 88, 89, 90, 70, 71, 72, 73, 74, 75] (by decide +kernel) (by decide +kernel)
set_option maxRecDepth 20000 in
theorem gX6_now_X6_mostFilled : GoodIn wsX6_now (wsV RX6 144 RX6 yX6_mostFilled wsX6_mostFilled) := goodIn_app (goodIn_of _ (by decide +kernel)) ggX6_now_X6_mostFilled
theorem dX6_now_0 : decode cX6_now 0 = .ok (.iload_n 1, 1) := by decide +kernel
theorem dX6_now_1 : decode cX6_now 1 = .ok (.tableswitch 72 0 4 #[35, 43, 51, 59, 64], 35) := by decide +kernel
theorem dX6_now_36 : decode cX6_now 36 = .ok (.aload_n 0, 1) := by decide +kernel
theorem dX6_now_37 : decode cX6_now 37 = .ok (.getfield 19, 3) := by decide +kernel
theorem dX6_now_40 : decode cX6_now 40 = .ok (.getfield 141, 3) := by decide +kernel
theorem dX6_now_43 : decode cX6_now 43 = .ok (.ireturn, 1) := by decide +kernel
theorem dX6_now_44 : decode cX6_now 44 = .ok (.aload_n 0, 1) := by decide +kernel
theorem dX6_now_45 : decode cX6_now 45 = .ok (.getfield 19, 3) := by decide +kernel
theorem dX6_now_48 : decode cX6_now 48 = .ok (.getfield 116, 3) := by decide +kernel
theorem dX6_now_51 : decode cX6_now 51 = .ok (.ireturn, 1) := by decide +kernel
theorem dX6_now_52 : decode cX6_now 52 = .ok (.aload_n 0, 1) := by decide +kernel
theorem dX6_now_53 : decode cX6_now 53 = .ok (.getfield 19, 3) := by decide +kernel
theorem dX6_now_56 : decode cX6_now 56 = .ok (.getfield 109, 3) := by decide +kernel
theorem dX6_now_59 : decode cX6_now 59 = .ok (.ireturn, 1) := by decide +kernel
theorem dX6_now_60 : decode cX6_now 60 = .ok (.aload_n 0, 1) := by decide +kernel
theorem dX6_now_61 : decode cX6_now 61 = .ok (.invokevirtual 144, 3) := by decide +kernel
theorem dX6_now_64 : decode cX6_now 64 = .ok (.ireturn, 1) := by decide +kernel
theorem dX6_now_65 : decode cX6_now 65 = .ok (.aload_n 0, 1) := by decide +kernel
theorem dX6_now_66 : decode cX6_now 66 = .ok (.getfield 26, 3) := by decide +kernel
theorem dX6_now_69 : decode cX6_now 69 = .ok (.getfield 148, 3) := by decide +kernel
theorem dX6_now_72 : decode cX6_now 72 = .ok (.ireturn, 1) := by decide +kernel
theorem dX6_now_73 : decode cX6_now 73 = .ok (.iconst (-1), 1) := by decide +kernel
theorem dX6_now_74 : decode cX6_now 74 = .ok (.ireturn, 1) := by decide +kernel
set_option maxRecDepth 20000 in
theorem ggX6_bears_X6_isMother : GoodIn wsX6_bears wsX6_isMother := goodIn_r _ [8, 3, 55, 56, 57, 58, 59, 60, 61, 62, 63, 64, 71, 72, 73, 74, 75, 76, 77, 78] (by decide +kernel) (by decide +kernel)
set_option maxRecDepth 20000 in
theorem gX6_bears_X6_isMother : GoodIn wsX6_bears (wsV RX6 106 RX6 yX6_isMother wsX6_isMother) := goodIn_app (goodIn_of _ (by decide +kernel)) ggX6_bears_X6_isMother
set_option maxRecDepth 20000 in
theorem ggX6_bears_X6_isRoom : GoodIn wsX6_bears wsX6_isRoom := goodIn_r _ [12, 3, 55, 56, 57, 58, 59, 60, 61, 62, 63, 64, 71, 72, 73, 74, 75, 76, 77, 78] (by decide +kernel) (by decide +kernel)
set_option maxRecDepth 20000 in
theorem gX6_bears_X6_isRoom : GoodIn wsX6_bears (wsV RX6 91 RX6 yX6_isRoom wsX6_isRoom) := goodIn_app (goodIn_of _ (by decide +kernel)) ggX6_bears_X6_isRoom
set_option maxRecDepth 20000 in
theorem ggX6_bears_X6_has : GoodIn wsX6_bears wsX6_has := goodIn_r _ [15, 16, 17, 7, 18] (by decide +kernel) (by decide +kernel)
set_option maxRecDepth 20000 in
theorem gX6_bears_X6_has : GoodIn wsX6_bears (va_wsS RX6 112 yX6_has wsX6_has) := goodIn_app (goodIn_of _ (by decide +kernel)) ggX6_bears_X6_has
set_option maxRecDepth 20000 in
theorem ggX6_bears_X2_remember : GoodIn wsX6_bears wsX2_remember := goodIn_r _ [22, 23, 24, 25, 26, 27, 28, 29, 30, 31, 32, 33, 34, 35, 36, 37, 38, 39, 40, 41, 42, 43, 79, 80, 81, 65, 66, 67, 68, 69, 70] (by decide +kernel) (by decide +kernel)
set_option maxRecDepth 20000 in
theorem gX6_bears_X2_remember_n151 : GoodIn wsX6_bears (wsX2_remember) := ggX6_bears_X2_remember
set_option maxRecDepth 20000 in
theorem ggX6_bears_X1_bear : GoodIn wsX6_bears wsX1_bear := goodIn_r _ [46, 43, 35, 36, 47, 48, 49, 31, 50, 42, 51, 52, 53, 54, 37, 14, 7, 15, 16, 17, 18, 65, 66, 67, 68, 69, 70] (by decide +kernel) (by decide +kernel)
set_option maxRecDepth 20000 in
theorem gX6_bears_X1_bear_n158 : GoodIn wsX6_bears (wsX1_bear) := ggX6_bears_X1_bear
theorem dX6_bears_0 : decode cX6_bears 0 = .ok (.aload_n 0, 1) := by decide +kernel
theorem dX6_bears_1 : decode cX6_bears 1 = .ok (.iload_n 1, 1) := by decide +kernel
theorem dX6_bears_2 : decode cX6_bears 2 = .ok (.invokevirtual 106, 3) := by decide +kernel
theorem dX6_bears_5 : decode cX6_bears 5 = .ok (.ifCond .eq 11, 3) := by decide +kernel
theorem dX6_bears_8 : decode cX6_bears 8 = .ok (.aload_n 0, 1) := by decide +kernel
theorem dX6_bears_9 : decode cX6_bears 9 = .ok (.iload_n 2, 1) := by decide +kernel
theorem dX6_bears_10 : decode cX6_bears 10 = .ok (.invokevirtual 91, 3) := by decide +kernel
theorem dX6_bears_13 : decode cX6_bears 13 = .ok (.ifCond .ne 5, 3) := by decide +kernel
theorem dX6_bears_16 : decode cX6_bears 16 = .ok (.iconst (-1), 1) := by decide +kernel
theorem dX6_bears_17 : decode cX6_bears 17 = .ok (.ireturn, 1) := by decide +kernel
theorem dX6_bears_18 : decode cX6_bears 18 = .ok (.aload_n 0, 1) := by decide +kernel
theorem dX6_bears_19 : decode cX6_bears 19 = .ok (.getfield 19, 3) := by decide +kernel
theorem dX6_bears_22 : decode cX6_bears 22 = .ok (.getfield 109, 3) := by decide +kernel
theorem dX6_bears_25 : decode cX6_bears 25 = .ok (.iload_n 1, 1) := by decide +kernel
theorem dX6_bears_26 : decode cX6_bears 26 = .ok (.invokestatic 112, 3) := by decide +kernel
theorem dX6_bears_29 : decode cX6_bears 29 = .ok (.ifCond .eq 6, 3) := by decide +kernel
theorem dX6_bears_32 : decode cX6_bears 32 = .ok (.bipush (-2), 2) := by decide +kernel
theorem dX6_bears_34 : decode cX6_bears 34 = .ok (.ireturn, 1) := by decide +kernel
theorem dX6_bears_35 : decode cX6_bears 35 = .ok (.aload_n 0, 1) := by decide +kernel
theorem dX6_bears_36 : decode cX6_bears 36 = .ok (.getfield 26, 3) := by decide +kernel
theorem dX6_bears_39 : decode cX6_bears 39 = .ok (.aload_n 0, 1) := by decide +kernel
theorem dX6_bears_40 : decode cX6_bears 40 = .ok (.getfield 19, 3) := by decide +kernel
theorem dX6_bears_43 : decode cX6_bears 43 = .ok (.invokevirtual 151, 3) := by decide +kernel
theorem dX6_bears_46 : decode cX6_bears 46 = .ok (.aload_n 0, 1) := by decide +kernel
theorem dX6_bears_47 : decode cX6_bears 47 = .ok (.getfield 19, 3) := by decide +kernel
theorem dX6_bears_50 : decode cX6_bears 50 = .ok (.iload_n 1, 1) := by decide +kernel
theorem dX6_bears_51 : decode cX6_bears 51 = .ok (.iload_n 2, 1) := by decide +kernel
theorem dX6_bears_52 : decode cX6_bears 52 = .ok (.aload_n 0, 1) := by decide +kernel
theorem dX6_bears_53 : decode cX6_bears 53 = .ok (.getfield 55, 3) := by decide +kernel
theorem dX6_bears_56 : decode cX6_bears 56 = .ok (.getfield 155, 3) := by decide +kernel
theorem dX6_bears_59 : decode cX6_bears 59 = .ok (.invokevirtual 158, 3) := by decide +kernel
theorem dX6_bears_62 : decode cX6_bears 62 = .ok (.ireturn, 1) := by decide +kernel
set_option maxRecDepth 20000 in
theorem ggX6_year_X2_remember : GoodIn wsX6_year wsX2_remember := goodIn_r _ [7, 8, 9, 10, 11, 12, 13, 14, 15, 16, 17, 18, 19, 20, 21, 22, 23, 24, 25, 26, 27, 28, 54, 55, 56, 48, 49, 50, 51, 52, 53] (by decide +kernel) (by decide +kernel)
set_option maxRecDepth 20000 in
theorem gX6_year_X2_remember_n151 : GoodIn wsX6_year (wsX2_remember) := ggX6_year_X2_remember
set_option maxRecDepth 20000 in
theorem ggX6_year_X1_passYear : GoodIn wsX6_year wsX1_passYear := goodIn_r _ [31, 19, 22, 21, 28, 32, 33, 34, 35, 36, 37, 48, 49, 50, 51, 52, 53, 57, 58, 59, 60, 61, 62, 63, 64] (by decide +kernel) (by decide +kernel)
set_option maxRecDepth 20000 in
theorem gX6_year_X1_passYear_n162 : GoodIn wsX6_year (wsX1_passYear) := ggX6_year_X1_passYear
theorem dX6_year_0 : decode cX6_year 0 = .ok (.aload_n 0, 1) := by decide +kernel
theorem dX6_year_1 : decode cX6_year 1 = .ok (.getfield 19, 3) := by decide +kernel
theorem dX6_year_4 : decode cX6_year 4 = .ok (.getfield 141, 3) := by decide +kernel
theorem dX6_year_7 : decode cX6_year 7 = .ok (.bipush 99, 2) := by decide +kernel
theorem dX6_year_9 : decode cX6_year 9 = .ok (.if_icmp .lt 6, 3) := by decide +kernel
theorem dX6_year_12 : decode cX6_year 12 = .ok (.bipush (-2), 2) := by decide +kernel
theorem dX6_year_14 : decode cX6_year 14 = .ok (.ireturn, 1) := by decide +kernel
theorem dX6_year_15 : decode cX6_year 15 = .ok (.aload_n 0, 1) := by decide +kernel
theorem dX6_year_16 : decode cX6_year 16 = .ok (.getfield 26, 3) := by decide +kernel
theorem dX6_year_19 : decode cX6_year 19 = .ok (.aload_n 0, 1) := by decide +kernel
theorem dX6_year_20 : decode cX6_year 20 = .ok (.getfield 19, 3) := by decide +kernel
theorem dX6_year_23 : decode cX6_year 23 = .ok (.invokevirtual 151, 3) := by decide +kernel
theorem dX6_year_26 : decode cX6_year 26 = .ok (.aload_n 0, 1) := by decide +kernel
theorem dX6_year_27 : decode cX6_year 27 = .ok (.getfield 19, 3) := by decide +kernel
theorem dX6_year_30 : decode cX6_year 30 = .ok (.aload_n 0, 1) := by decide +kernel
theorem dX6_year_31 : decode cX6_year 31 = .ok (.getfield 55, 3) := by decide +kernel
theorem dX6_year_34 : decode cX6_year 34 = .ok (.invokevirtual 162, 3) := by decide +kernel
theorem dX6_year_37 : decode cX6_year 37 = .ok (.ireturn, 1) := by decide +kernel
set_option maxRecDepth 20000 in
theorem ggX6_joins_X6_isRoom : GoodIn wsX6_joins wsX6_isRoom := goodIn_r _ [7, 8, 50, 51, 52, 53, 54, 55, 56, 57, 58, 59, 66, 67, 68, 69, 70, 71, 72, 73] (by decide +kernel) (by decide +kernel)
set_option maxRecDepth 20000 in
theorem gX6_joins_X6_isRoom : GoodIn wsX6_joins (wsV RX6 91 RX6 yX6_isRoom wsX6_isRoom) := goodIn_app (goodIn_of _ (by decide +kernel)) ggX6_joins_X6_isRoom
set_option maxRecDepth 20000 in
theorem ggX6_joins_X6_has : GoodIn wsX6_joins wsX6_has := goodIn_r _ [11, 12, 13, 6, 14] (by decide +kernel) (by decide +kernel)
set_option maxRecDepth 20000 in
theorem gX6_joins_X6_has : GoodIn wsX6_joins (va_wsS RX6 112 yX6_has wsX6_has) := goodIn_app (goodIn_of _ (by decide +kernel)) ggX6_joins_X6_has
set_option maxRecDepth 20000 in
theorem ggX6_joins_X2_remember : GoodIn wsX6_joins wsX2_remember := goodIn_r _ [18, 19, 20, 21, 22, 23, 24, 25, 26, 27, 28, 29, 30, 31, 32, 33, 34, 35, 36, 37, 38, 39, 74, 75, 76, 60, 61, 62, 63, 64, 65] (by decide +kernel) (by decide +kernel)
set_option maxRecDepth 20000 in
theorem gX6_joins_X2_remember_n151 : GoodIn wsX6_joins (wsX2_remember) := ggX6_joins_X2_remember
set_option maxRecDepth 20000 in
theorem ggX6_joins_X1_knockThrough : GoodIn wsX6_joins wsX1_knockThrough := goodIn_r _ [42, 38, 10, 6, 11, 12, 13, 14, 60, 61, 62, 63, 64, 65] (by decide +kernel) (by decide +kernel)
set_option maxRecDepth 20000 in
theorem gX6_joins_X1_knockThrough_n166 : GoodIn wsX6_joins (wsX1_knockThrough) := ggX6_joins_X1_knockThrough
set_option maxRecDepth 20000 in
theorem ggX6_joins_X1_ageOfRoom : GoodIn wsX6_joins wsX1_ageOfRoom := goodIn_r _ [45, 38, 46, 47, 48, 27, 49, 33, 10, 6, 11, 12, 13, 14, 60, 61, 62, 63, 64, 65] (by decide +kernel) (by decide +kernel)
set_option maxRecDepth 20000 in
theorem gX6_joins_X1_ageOfRoom_n99 : GoodIn wsX6_joins (wsX1_ageOfRoom) := ggX6_joins_X1_ageOfRoom
theorem dX6_joins_0 : decode cX6_joins 0 = .ok (.aload_n 0, 1) := by decide +kernel
theorem dX6_joins_1 : decode cX6_joins 1 = .ok (.iload_n 1, 1) := by decide +kernel
theorem dX6_joins_2 : decode cX6_joins 2 = .ok (.invokevirtual 91, 3) := by decide +kernel
theorem dX6_joins_5 : decode cX6_joins 5 = .ok (.ifCond .eq 16, 3) := by decide +kernel
theorem dX6_joins_8 : decode cX6_joins 8 = .ok (.aload_n 0, 1) := by decide +kernel
theorem dX6_joins_9 : decode cX6_joins 9 = .ok (.iload_n 2, 1) := by decide +kernel
theorem dX6_joins_10 : decode cX6_joins 10 = .ok (.invokevirtual 91, 3) := by decide +kernel
theorem dX6_joins_13 : decode cX6_joins 13 = .ok (.ifCond .eq 8, 3) := by decide +kernel
theorem dX6_joins_16 : decode cX6_joins 16 = .ok (.iload_n 1, 1) := by decide +kernel
theorem dX6_joins_17 : decode cX6_joins 17 = .ok (.iload_n 2, 1) := by decide +kernel
theorem dX6_joins_18 : decode cX6_joins 18 = .ok (.if_icmp .ne 5, 3) := by decide +kernel
theorem dX6_joins_21 : decode cX6_joins 21 = .ok (.iconst (-1), 1) := by decide +kernel
theorem dX6_joins_22 : decode cX6_joins 22 = .ok (.ireturn, 1) := by decide +kernel
theorem dX6_joins_23 : decode cX6_joins 23 = .ok (.aload_n 0, 1) := by decide +kernel
theorem dX6_joins_24 : decode cX6_joins 24 = .ok (.getfield 19, 3) := by decide +kernel
theorem dX6_joins_27 : decode cX6_joins 27 = .ok (.getfield 103, 3) := by decide +kernel
theorem dX6_joins_30 : decode cX6_joins 30 = .ok (.iload_n 1, 1) := by decide +kernel
theorem dX6_joins_31 : decode cX6_joins 31 = .ok (.iaload, 1) := by decide +kernel
theorem dX6_joins_32 : decode cX6_joins 32 = .ok (.iload_n 2, 1) := by decide +kernel
theorem dX6_joins_33 : decode cX6_joins 33 = .ok (.invokestatic 112, 3) := by decide +kernel
theorem dX6_joins_36 : decode cX6_joins 36 = .ok (.ifCond .eq 6, 3) := by decide +kernel
theorem dX6_joins_39 : decode cX6_joins 39 = .ok (.bipush (-2), 2) := by decide +kernel
theorem dX6_joins_41 : decode cX6_joins 41 = .ok (.ireturn, 1) := by decide +kernel
theorem dX6_joins_42 : decode cX6_joins 42 = .ok (.aload_n 0, 1) := by decide +kernel
theorem dX6_joins_43 : decode cX6_joins 43 = .ok (.getfield 26, 3) := by decide +kernel
theorem dX6_joins_46 : decode cX6_joins 46 = .ok (.aload_n 0, 1) := by decide +kernel
theorem dX6_joins_47 : decode cX6_joins 47 = .ok (.getfield 19, 3) := by decide +kernel
theorem dX6_joins_50 : decode cX6_joins 50 = .ok (.invokevirtual 151, 3) := by decide +kernel
theorem dX6_joins_53 : decode cX6_joins 53 = .ok (.aload_n 0, 1) := by decide +kernel
theorem dX6_joins_54 : decode cX6_joins 54 = .ok (.getfield 19, 3) := by decide +kernel
theorem dX6_joins_57 : decode cX6_joins 57 = .ok (.iload_n 1, 1) := by decide +kernel
theorem dX6_joins_58 : decode cX6_joins 58 = .ok (.iload_n 2, 1) := by decide +kernel
theorem dX6_joins_59 : decode cX6_joins 59 = .ok (.invokevirtual 166, 3) := by decide +kernel
theorem dX6_joins_62 : decode cX6_joins 62 = .ok (.aload_n 0, 1) := by decide +kernel
theorem dX6_joins_63 : decode cX6_joins 63 = .ok (.getfield 19, 3) := by decide +kernel
theorem dX6_joins_66 : decode cX6_joins 66 = .ok (.iload_n 1, 1) := by decide +kernel
theorem dX6_joins_67 : decode cX6_joins 67 = .ok (.invokevirtual 99, 3) := by decide +kernel
theorem dX6_joins_70 : decode cX6_joins 70 = .ok (.ireturn, 1) := by decide +kernel
set_option maxRecDepth 20000 in
theorem ggX6_builds_X6_isRoom : GoodIn wsX6_builds wsX6_isRoom := goodIn_r _ [7, 8, 40, 41, 42, 43, 44, 45, 46, 47, 48, 49, 56, 57, 58, 59, 60, 61, 62, 63] (by decide +kernel) (by decide +kernel)
set_option maxRecDepth 20000 in
theorem gX6_builds_X6_isRoom : GoodIn wsX6_builds (wsV RX6 91 RX6 yX6_isRoom wsX6_isRoom) := goodIn_app (goodIn_of _ (by decide +kernel)) ggX6_builds_X6_isRoom
set_option maxRecDepth 20000 in
theorem ggX6_builds_X6_bit : GoodIn wsX6_builds wsX6_bit := goodIn_r _ [11] (by decide +kernel) (by decide +kernel)
set_option maxRecDepth 20000 in
theorem gX6_builds_X6_bit : GoodIn wsX6_builds (va_wsS RX6 170 yX6_bit wsX6_bit) := goodIn_app (goodIn_of _ (by decide +kernel)) ggX6_builds_X6_bit
set_option maxRecDepth 20000 in
theorem ggX6_builds_X2_remember : GoodIn wsX6_builds wsX2_remember := goodIn_r _ [15, 16, 17, 18, 19, 20, 21, 22, 23, 24, 25, 26, 27, 28, 29, 30, 31, 32, 33, 34, 35, 36, 64, 65, 66, 50, 51, 52, 53, 54, 55] (by decide +kernel) (by decide +kernel)
set_option maxRecDepth 20000 in
theorem gX6_builds_X2_remember_n151 : GoodIn wsX6_builds (wsX2_remember) := ggX6_builds_X2_remember
set_option maxRecDepth 20000 in
theorem ggX6_builds_X1_buildAnew : GoodIn wsX6_builds wsX1_buildAnew := goodIn_r _ [39, 35, 30, 10, 6, 11, 50, 51, 52, 53, 54, 55] (by decide +kernel) (by decide +kernel)
set_option maxRecDepth 20000 in
theorem gX6_builds_X1_buildAnew_n173 : GoodIn wsX6_builds (wsX1_buildAnew) := ggX6_builds_X1_buildAnew
theorem dX6_builds_0 : decode cX6_builds 0 = .ok (.aload_n 0, 1) := by decide +kernel
theorem dX6_builds_1 : decode cX6_builds 1 = .ok (.iload_n 1, 1) := by decide +kernel
theorem dX6_builds_2 : decode cX6_builds 2 = .ok (.invokevirtual 91, 3) := by decide +kernel
theorem dX6_builds_5 : decode cX6_builds 5 = .ok (.ifCond .ne 5, 3) := by decide +kernel
theorem dX6_builds_8 : decode cX6_builds 8 = .ok (.iconst (-1), 1) := by decide +kernel
theorem dX6_builds_9 : decode cX6_builds 9 = .ok (.ireturn, 1) := by decide +kernel
theorem dX6_builds_10 : decode cX6_builds 10 = .ok (.aload_n 0, 1) := by decide +kernel
theorem dX6_builds_11 : decode cX6_builds 11 = .ok (.getfield 19, 3) := by decide +kernel
theorem dX6_builds_14 : decode cX6_builds 14 = .ok (.getfield 95, 3) := by decide +kernel
theorem dX6_builds_17 : decode cX6_builds 17 = .ok (.iload_n 1, 1) := by decide +kernel
theorem dX6_builds_18 : decode cX6_builds 18 = .ok (.iaload, 1) := by decide +kernel
theorem dX6_builds_19 : decode cX6_builds 19 = .ok (.istore_n 2, 1) := by decide +kernel
theorem dX6_builds_20 : decode cX6_builds 20 = .ok (.iload_n 2, 1) := by decide +kernel
theorem dX6_builds_21 : decode cX6_builds 21 = .ok (.ifCond .ne 22, 3) := by decide +kernel
theorem dX6_builds_24 : decode cX6_builds 24 = .ok (.aload_n 0, 1) := by decide +kernel
theorem dX6_builds_25 : decode cX6_builds 25 = .ok (.getfield 19, 3) := by decide +kernel
theorem dX6_builds_28 : decode cX6_builds 28 = .ok (.getfield 103, 3) := by decide +kernel
theorem dX6_builds_31 : decode cX6_builds 31 = .ok (.iload_n 1, 1) := by decide +kernel
theorem dX6_builds_32 : decode cX6_builds 32 = .ok (.iaload, 1) := by decide +kernel
theorem dX6_builds_33 : decode cX6_builds 33 = .ok (.iload_n 1, 1) := by decide +kernel
theorem dX6_builds_34 : decode cX6_builds 34 = .ok (.invokestatic 170, 3) := by decide +kernel
theorem dX6_builds_37 : decode cX6_builds 37 = .ok (.if_icmp .ne 6, 3) := by decide +kernel
theorem dX6_builds_40 : decode cX6_builds 40 = .ok (.bipush (-2), 2) := by decide +kernel
theorem dX6_builds_42 : decode cX6_builds 42 = .ok (.ireturn, 1) := by decide +kernel
theorem dX6_builds_43 : decode cX6_builds 43 = .ok (.aload_n 0, 1) := by decide +kernel
theorem dX6_builds_44 : decode cX6_builds 44 = .ok (.getfield 26, 3) := by decide +kernel
theorem dX6_builds_47 : decode cX6_builds 47 = .ok (.aload_n 0, 1) := by decide +kernel
theorem dX6_builds_48 : decode cX6_builds 48 = .ok (.getfield 19, 3) := by decide +kernel
theorem dX6_builds_51 : decode cX6_builds 51 = .ok (.invokevirtual 151, 3) := by decide +kernel
theorem dX6_builds_54 : decode cX6_builds 54 = .ok (.aload_n 0, 1) := by decide +kernel
theorem dX6_builds_55 : decode cX6_builds 55 = .ok (.getfield 19, 3) := by decide +kernel
theorem dX6_builds_58 : decode cX6_builds 58 = .ok (.iload_n 1, 1) := by decide +kernel
theorem dX6_builds_59 : decode cX6_builds 59 = .ok (.invokevirtual 173, 3) := by decide +kernel
theorem dX6_builds_62 : decode cX6_builds 62 = .ok (.iload_n 2, 1) := by decide +kernel
theorem dX6_builds_63 : decode cX6_builds 63 = .ok (.ireturn, 1) := by decide +kernel
set_option maxRecDepth 20000 in
theorem ggX6_undo_X2_restore : GoodIn wsX6_undo wsX2_restore := goodIn_r _ [6, 7, 8, 9, 10, 11, 12, 13, 14, 15, 16, 17, 18, 19, 20, 21, 22, 23, 34, 35, 36, 37, 38, 39, 40, 41, 42] (by decide +kernel) (by decide +kernel)
set_option maxRecDepth 20000 in
theorem gX6_undo_X2_restore_n176 : GoodIn wsX6_undo (wsX2_restore) := ggX6_undo_X2_restore
theorem dX6_undo_0 : decode cX6_undo 0 = .ok (.aload_n 0, 1) := by decide +kernel
theorem dX6_undo_1 : decode cX6_undo 1 = .ok (.getfield 26, 3) := by decide +kernel
theorem dX6_undo_4 : decode cX6_undo 4 = .ok (.getfield 148, 3) := by decide +kernel
theorem dX6_undo_7 : decode cX6_undo 7 = .ok (.ifCond .ne 6, 3) := by decide +kernel
theorem dX6_undo_10 : decode cX6_undo 10 = .ok (.bipush (-2), 2) := by decide +kernel
theorem dX6_undo_12 : decode cX6_undo 12 = .ok (.ireturn, 1) := by decide +kernel
theorem dX6_undo_13 : decode cX6_undo 13 = .ok (.aload_n 0, 1) := by decide +kernel
theorem dX6_undo_14 : decode cX6_undo 14 = .ok (.getfield 26, 3) := by decide +kernel
theorem dX6_undo_17 : decode cX6_undo 17 = .ok (.aload_n 0, 1) := by decide +kernel
theorem dX6_undo_18 : decode cX6_undo 18 = .ok (.getfield 19, 3) := by decide +kernel
theorem dX6_undo_21 : decode cX6_undo 21 = .ok (.invokevirtual 176, 3) := by decide +kernel
theorem dX6_undo_24 : decode cX6_undo 24 = .ok (.aload_n 0, 1) := by decide +kernel
theorem dX6_undo_25 : decode cX6_undo 25 = .ok (.getfield 26, 3) := by decide +kernel
theorem dX6_undo_28 : decode cX6_undo 28 = .ok (.getfield 148, 3) := by decide +kernel
theorem dX6_undo_31 : decode cX6_undo 31 = .ok (.ireturn, 1) := by decide +kernel
set_option maxRecDepth 20000 in
theorem ggX6_fills_X6_isMother : GoodIn wsX6_fills wsX6_isMother := goodIn_r _ [6, 7, 70, 71, 72, 73, 74, 75, 76, 77, 78, 79, 80, 81, 82, 83, 84, 85, 86, 87] (by decide +kernel) (by decide +kernel)
set_option maxRecDepth 20000 in
theorem gX6_fills_X6_isMother : GoodIn wsX6_fills (wsV RX6 106 RX6 yX6_isMother wsX6_isMother) := goodIn_app (goodIn_of _ (by decide +kernel)) ggX6_fills_X6_isMother
set_option maxRecDepth 20000 in
theorem ggX6_fills_X6_mostFilled : GoodIn wsX6_fills wsX6_mostFilled := goodIn_r _ [11, 1, 12, 13, 14, 5, 15, 7, 16, 17, 18, 19, 20, 21, 22, 23, 24, 25, 26, 27, 28, 29, 30, 31, 32, 33, 34, 35, 36, 37, 38, 39, 40, 41, 42, 43, 44, 45, 46, 47, 48, 49, 50, 51, 52, 53, 54, 55, 56, 57, 58, 59, 60, 61, 62, 70, 71, 72, 73, 74, 75, 76, 77, 78, 79, 80, 81, 82, 83, 84, 85, 86, 87, 88, 89, 90, 91, 92, 93, 94, 95, 96, 97] (by decide +kernel) (by decide +kernel)
set_option maxRecDepth 20000 in
theorem gX6_fills_X6_mostFilled : GoodIn wsX6_fills (wsV RX6 144 RX6 yX6_mostFilled wsX6_mostFilled) := goodIn_app (goodIn_of _ (by decide +kernel)) ggX6_fills_X6_mostFilled
set_option maxRecDepth 20000 in
theorem ggX6_fills_X0_workOf : GoodIn wsX6_fills wsX0_workOf := goodIn_r _ [65, 66, 67, 68, 44, 69, 47, 48, 58, 59, 60, 61, 62, 22, 5, 23, 24, 25, 26, 88, 89, 90, 91] (by decide +kernel) (by decide +kernel)
set_option maxRecDepth 20000 in
theorem gX6_fills_X0_workOf_n179 : GoodIn wsX6_fills (wsX0_workOf) := ggX6_fills_X0_workOf
theorem dX6_fills_0 : decode cX6_fills 0 = .ok (.aload_n 0, 1) := by decide +kernel
theorem dX6_fills_1 : decode cX6_fills 1 = .ok (.iload_n 1, 1) := by decide +kernel
theorem dX6_fills_2 : decode cX6_fills 2 = .ok (.invokevirtual 106, 3) := by decide +kernel
theorem dX6_fills_5 : decode cX6_fills 5 = .ok (.ifCond .ne 5, 3) := by decide +kernel
theorem dX6_fills_8 : decode cX6_fills 8 = .ok (.iconst (-1), 1) := by decide +kernel
theorem dX6_fills_9 : decode cX6_fills 9 = .ok (.ireturn, 1) := by decide +kernel
theorem dX6_fills_10 : decode cX6_fills 10 = .ok (.aload_n 0, 1) := by decide +kernel
theorem dX6_fills_11 : decode cX6_fills 11 = .ok (.invokevirtual 144, 3) := by decide +kernel
theorem dX6_fills_14 : decode cX6_fills 14 = .ok (.pop, 1) := by decide +kernel
theorem dX6_fills_15 : decode cX6_fills 15 = .ok (.aload_n 0, 1) := by decide +kernel
theorem dX6_fills_16 : decode cX6_fills 16 = .ok (.getfield 41, 3) := by decide +kernel
theorem dX6_fills_19 : decode cX6_fills 19 = .ok (.iload_n 1, 1) := by decide +kernel
theorem dX6_fills_20 : decode cX6_fills 20 = .ok (.invokevirtual 179, 3) := by decide +kernel
theorem dX6_fills_23 : decode cX6_fills 23 = .ok (.ireturn, 1) := by decide +kernel
set_option maxRecDepth 20000 in
theorem ggX6_carry_X6_isMother : GoodIn wsX6_carry wsX6_isMother := goodIn_r _ [8, 2, 69, 70, 71, 72, 73, 74, 75, 76, 77, 78, 85, 86, 87, 88, 89, 90, 91, 92] (by decide +kernel) (by decide +kernel)
set_option maxRecDepth 20000 in
theorem gX6_carry_X6_isMother : GoodIn wsX6_carry (wsV RX6 106 RX6 yX6_isMother wsX6_isMother) := goodIn_app (goodIn_of _ (by decide +kernel)) ggX6_carry_X6_isMother
set_option maxRecDepth 20000 in
theorem ggX6_carry_X6_has : GoodIn wsX6_carry wsX6_has := goodIn_r _ [11, 12, 13, 7, 14] (by decide +kernel) (by decide +kernel)
set_option maxRecDepth 20000 in
theorem gX6_carry_X6_has : GoodIn wsX6_carry (va_wsS RX6 112 yX6_has wsX6_has) := goodIn_app (goodIn_of _ (by decide +kernel)) ggX6_carry_X6_has
set_option maxRecDepth 20000 in
theorem ggX6_carry_X6_tellFilling : GoodIn wsX6_carry wsX6_tellFilling := goodIn_r _ [18, 3, 2, 19, 20, 21, 7, 22, 1, 9, 10, 11, 12, 13, 14, 23, 24, 25, 26, 27, 28, 29, 30, 31, 32, 33, 34, 35, 36, 37, 38, 69, 70, 71, 72, 73, 74, 75, 76, 77, 78, 85, 86, 87, 88, 89, 90, 91, 92, 93, 94, 95, 96, 79, 80, 81, 82, 83, 84] (by decide +kernel) (by decide +kernel)
set_option maxRecDepth 20000 in
theorem gX6_carry_X6_tellFilling : GoodIn wsX6_carry (wsV RX6 182 RX6 yX6_tellFilling wsX6_tellFilling) := goodIn_app (goodIn_of _ (by decide +kernel)) ggX6_carry_X6_tellFilling
set_option maxRecDepth 20000 in
theorem ggX6_carry_X1_ageOfRoom : GoodIn wsX6_carry wsX1_ageOfRoom := goodIn_r _ [42, 43, 44, 45, 46, 40, 47, 48, 10, 7, 11, 12, 13, 14, 79, 80, 81, 82, 83, 84] (by decide +kernel) (by decide +kernel)
set_option maxRecDepth 20000 in
theorem gX6_carry_X1_ageOfRoom_n99 : GoodIn wsX6_carry (wsX1_ageOfRoom) := ggX6_carry_X1_ageOfRoom
set_option maxRecDepth 20000 in
theorem ggX6_carry_X5_worksAt : GoodIn wsX6_carry wsX5_worksAt := goodIn_r _ [26, 27, 28, 29, 30, 24, 31, 32, 33, 34, 35, 36, 37, 38, 13, 7, 14, 85, 86, 87, 88, 89, 90, 91, 92] (by decide +kernel) (by decide +kernel)
set_option maxRecDepth 20000 in
theorem gX6_carry_X5_worksAt_n191 : GoodIn wsX6_carry (wsX5_worksAt) := ggX6_carry_X5_worksAt
set_option maxRecDepth 20000 in
theorem ggX6_carry_X0_solve : GoodIn wsX6_carry wsX0_solve := goodIn_r _ [52, 53, 54, 55, 13, 7, 14, 56, 57, 58, 50, 59, 60, 61, 62, 63, 64, 65, 66, 67, 68, 10, 11, 12, 93, 94, 95, 96] (by decide +kernel) (by decide +kernel)
set_option maxRecDepth 20000 in
theorem gX6_carry_X0_solve_n194 : GoodIn wsX6_carry (wsX0_solve) := ggX6_carry_X0_solve
theorem dX6_carry_0 : decode cX6_carry 0 = .ok (.aload_n 0, 1) := by decide +kernel
theorem dX6_carry_1 : decode cX6_carry 1 = .ok (.iload_n 1, 1) := by decide +kernel
theorem dX6_carry_2 : decode cX6_carry 2 = .ok (.invokevirtual 106, 3) := by decide +kernel
theorem dX6_carry_5 : decode cX6_carry 5 = .ok (.ifCond .eq 12, 3) := by decide +kernel
theorem dX6_carry_8 : decode cX6_carry 8 = .ok (.iload_n 2, 1) := by decide +kernel
theorem dX6_carry_9 : decode cX6_carry 9 = .ok (.ifCond .lt 8, 3) := by decide +kernel
theorem dX6_carry_12 : decode cX6_carry 12 = .ok (.iload_n 2, 1) := by decide +kernel
theorem dX6_carry_13 : decode cX6_carry 13 = .ok (.iconst 1, 1) := by decide +kernel
theorem dX6_carry_14 : decode cX6_carry 14 = .ok (.if_icmp .le 5, 3) := by decide +kernel
theorem dX6_carry_17 : decode cX6_carry 17 = .ok (.iconst (-1), 1) := by decide +kernel
theorem dX6_carry_18 : decode cX6_carry 18 = .ok (.ireturn, 1) := by decide +kernel
theorem dX6_carry_19 : decode cX6_carry 19 = .ok (.aload_n 0, 1) := by decide +kernel
theorem dX6_carry_20 : decode cX6_carry 20 = .ok (.getfield 19, 3) := by decide +kernel
theorem dX6_carry_23 : decode cX6_carry 23 = .ok (.getfield 109, 3) := by decide +kernel
theorem dX6_carry_26 : decode cX6_carry 26 = .ok (.iload_n 1, 1) := by decide +kernel
theorem dX6_carry_27 : decode cX6_carry 27 = .ok (.invokestatic 112, 3) := by decide +kernel
theorem dX6_carry_30 : decode cX6_carry 30 = .ok (.ifCond .eq 6, 3) := by decide +kernel
theorem dX6_carry_33 : decode cX6_carry 33 = .ok (.bipush (-2), 2) := by decide +kernel
theorem dX6_carry_35 : decode cX6_carry 35 = .ok (.ireturn, 1) := by decide +kernel
theorem dX6_carry_36 : decode cX6_carry 36 = .ok (.aload_n 0, 1) := by decide +kernel
theorem dX6_carry_37 : decode cX6_carry 37 = .ok (.invokevirtual 182, 3) := by decide +kernel
theorem dX6_carry_40 : decode cX6_carry 40 = .ok (.bipush (-9), 2) := by decide +kernel
theorem dX6_carry_42 : decode cX6_carry 42 = .ok (.istore_n 3, 1) := by decide +kernel
theorem dX6_carry_43 : decode cX6_carry 43 = .ok (.bipush (-9), 2) := by decide +kernel
theorem dX6_carry_45 : decode cX6_carry 45 = .ok (.istore 4, 2) := by decide +kernel
theorem dX6_carry_47 : decode cX6_carry 47 = .ok (.iconst 0, 1) := by decide +kernel
theorem dX6_carry_48 : decode cX6_carry 48 = .ok (.istore 5, 2) := by decide +kernel
theorem dX6_carry_50 : decode cX6_carry 50 = .ok (.iload 5, 2) := by decide +kernel
theorem dX6_carry_52 : decode cX6_carry 52 = .ok (.aload_n 0, 1) := by decide +kernel
theorem dX6_carry_53 : decode cX6_carry 53 = .ok (.getfield 55, 3) := by decide +kernel
theorem dX6_carry_56 : decode cX6_carry 56 = .ok (.getfield 185, 3) := by decide +kernel
theorem dX6_carry_59 : decode cX6_carry 59 = .ok (.if_icmp .ge 57, 3) := by decide +kernel
theorem dX6_carry_62 : decode cX6_carry 62 = .ok (.aload_n 0, 1) := by decide +kernel
theorem dX6_carry_63 : decode cX6_carry 63 = .ok (.getfield 41, 3) := by decide +kernel
theorem dX6_carry_66 : decode cX6_carry 66 = .ok (.getfield 188, 3) := by decide +kernel
theorem dX6_carry_69 : decode cX6_carry 69 = .ok (.iload_n 1, 1) := by decide +kernel
theorem dX6_carry_70 : decode cX6_carry 70 = .ok (.aload_n 0, 1) := by decide +kernel
theorem dX6_carry_71 : decode cX6_carry 71 = .ok (.getfield 55, 3) := by decide +kernel
theorem dX6_carry_74 : decode cX6_carry 74 = .ok (.aload_n 0, 1) := by decide +kernel
theorem dX6_carry_75 : decode cX6_carry 75 = .ok (.getfield 19, 3) := by decide +kernel
theorem dX6_carry_78 : decode cX6_carry 78 = .ok (.iload 5, 2) := by decide +kernel
theorem dX6_carry_80 : decode cX6_carry 80 = .ok (.invokevirtual 99, 3) := by decide +kernel
theorem dX6_carry_83 : decode cX6_carry 83 = .ok (.invokevirtual 191, 3) := by decide +kernel
theorem dX6_carry_86 : decode cX6_carry 86 = .ok (.iastore, 1) := by decide +kernel
theorem dX6_carry_87 : decode cX6_carry 87 = .ok (.aload_n 0, 1) := by decide +kernel
theorem dX6_carry_88 : decode cX6_carry 88 = .ok (.getfield 41, 3) := by decide +kernel
theorem dX6_carry_91 : decode cX6_carry 91 = .ok (.invokevirtual 194, 3) := by decide +kernel
theorem dX6_carry_94 : decode cX6_carry 94 = .ok (.istore 6, 2) := by decide +kernel
theorem dX6_carry_96 : decode cX6_carry 96 = .ok (.iload 6, 2) := by decide +kernel
theorem dX6_carry_98 : decode cX6_carry 98 = .ok (.iload 4, 2) := by decide +kernel
theorem dX6_carry_100 : decode cX6_carry 100 = .ok (.if_icmp .le 10, 3) := by decide +kernel
theorem dX6_carry_103 : decode cX6_carry 103 = .ok (.iload 5, 2) := by decide +kernel
theorem dX6_carry_105 : decode cX6_carry 105 = .ok (.istore_n 3, 1) := by decide +kernel
theorem dX6_carry_106 : decode cX6_carry 106 = .ok (.iload 6, 2) := by decide +kernel
theorem dX6_carry_108 : decode cX6_carry 108 = .ok (.istore 4, 2) := by decide +kernel
theorem dX6_carry_110 : decode cX6_carry 110 = .ok (.iinc 5 1, 3) := by decide +kernel
theorem dX6_carry_113 : decode cX6_carry 113 = .ok (.goto (-63), 3) := by decide +kernel
theorem dX6_carry_116 : decode cX6_carry 116 = .ok (.iload_n 2, 1) := by decide +kernel
theorem dX6_carry_117 : decode cX6_carry 117 = .ok (.ifCond .ne 7, 3) := by decide +kernel
theorem dX6_carry_120 : decode cX6_carry 120 = .ok (.iload_n 3, 1) := by decide +kernel
theorem dX6_carry_121 : decode cX6_carry 121 = .ok (.goto 5, 3) := by decide +kernel
theorem dX6_carry_124 : decode cX6_carry 124 = .ok (.iload 4, 2) := by decide +kernel
theorem dX6_carry_126 : decode cX6_carry 126 = .ok (.ireturn, 1) := by decide +kernel
set_option maxRecDepth 20000 in
theorem ggX6_join_X6_bit : GoodIn wsX6_join wsX6_bit := goodIn_r _ [6] (by decide +kernel) (by decide +kernel)
set_option maxRecDepth 20000 in
theorem gX6_join_X6_bit : GoodIn wsX6_join (va_wsS RX6 170 yX6_bit wsX6_bit) := goodIn_app (goodIn_of _ (by decide +kernel)) ggX6_join_X6_bit
set_option maxRecDepth 20000 in
theorem ggX6_join_J6_bitCount_0f7a4 : GoodIn wsX6_join wsJ6_bitCount_0f7a4 := goodIn_r _ [10, 11, 12, 13] (by decide +kernel) (by decide +kernel)
set_option maxRecDepth 20000 in
theorem gX6_join_J6_bitCount_0f7a4 : GoodIn wsX6_join (va_wsS RX6 197 yJ6_bitCount_0f7a4 wsJ6_bitCount_0f7a4) := goodIn_app (goodIn_of _ (by decide +kernel)) ggX6_join_J6_bitCount_0f7a4
set_option maxRecDepth 20000 in
theorem ggX6_join_X1_ageTogether : GoodIn wsX6_join wsX1_ageTogether := goodIn_r _ [17, 18, 19, 5, 20, 3, 4, 6, 39, 40, 41, 42, 43, 44] (by decide +kernel) (by decide +kernel)
set_option maxRecDepth 20000 in
theorem gX6_join_X1_ageTogether_n202 : GoodIn wsX6_join (wsX1_ageTogether) := ggX6_join_X1_ageTogether
theorem dX6_join_0 : decode cX6_join 0 = .ok (.iload_n 1, 1) := by decide +kernel
theorem dX6_join_1 : decode cX6_join 1 = .ok (.ifCond .lt 10, 3) := by decide +kernel
theorem dX6_join_4 : decode cX6_join 4 = .ok (.iload_n 1, 1) := by decide +kernel
theorem dX6_join_5 : decode cX6_join 5 = .ok (.sipush 198, 3) := by decide +kernel
theorem dX6_join_8 : decode cX6_join 8 = .ok (.if_icmp .le 5, 3) := by decide +kernel
theorem dX6_join_11 : decode cX6_join 11 = .ok (.iconst (-1), 1) := by decide +kernel
theorem dX6_join_12 : decode cX6_join 12 = .ok (.ireturn, 1) := by decide +kernel
theorem dX6_join_13 : decode cX6_join 13 = .ok (.bipush (-9), 2) := by decide +kernel
theorem dX6_join_15 : decode cX6_join 15 = .ok (.istore_n 2, 1) := by decide +kernel
theorem dX6_join_16 : decode cX6_join 16 = .ok (.bipush 7, 2) := by decide +kernel
theorem dX6_join_18 : decode cX6_join 18 = .ok (.istore_n 3, 1) := by decide +kernel
theorem dX6_join_19 : decode cX6_join 19 = .ok (.iconst 1, 1) := by decide +kernel
theorem dX6_join_20 : decode cX6_join 20 = .ok (.istore 4, 2) := by decide +kernel
theorem dX6_join_22 : decode cX6_join 22 = .ok (.iload 4, 2) := by decide +kernel
theorem dX6_join_24 : decode cX6_join 24 = .ok (.aload_n 0, 1) := by decide +kernel
theorem dX6_join_25 : decode cX6_join 25 = .ok (.getfield 55, 3) := by decide +kernel
theorem dX6_join_28 : decode cX6_join 28 = .ok (.getfield 185, 3) := by decide +kernel
theorem dX6_join_31 : decode cX6_join 31 = .ok (.invokestatic 170, 3) := by decide +kernel
theorem dX6_join_34 : decode cX6_join 34 = .ok (.if_icmp .ge 41, 3) := by decide +kernel
theorem dX6_join_37 : decode cX6_join 37 = .ok (.iload 4, 2) := by decide +kernel
theorem dX6_join_39 : decode cX6_join 39 = .ok (.invokestatic 197, 3) := by decide +kernel
theorem dX6_join_42 : decode cX6_join 42 = .ok (.istore 5, 2) := by decide +kernel
theorem dX6_join_44 : decode cX6_join 44 = .ok (.iload 5, 2) := by decide +kernel
theorem dX6_join_46 : decode cX6_join 46 = .ok (.iload_n 3, 1) := by decide +kernel
theorem dX6_join_47 : decode cX6_join 47 = .ok (.if_icmp .ge 22, 3) := by decide +kernel
theorem dX6_join_50 : decode cX6_join 50 = .ok (.aload_n 0, 1) := by decide +kernel
theorem dX6_join_51 : decode cX6_join 51 = .ok (.getfield 19, 3) := by decide +kernel
theorem dX6_join_54 : decode cX6_join 54 = .ok (.iload 4, 2) := by decide +kernel
theorem dX6_join_56 : decode cX6_join 56 = .ok (.invokevirtual 202, 3) := by decide +kernel
theorem dX6_join_59 : decode cX6_join 59 = .ok (.iload_n 1, 1) := by decide +kernel
theorem dX6_join_60 : decode cX6_join 60 = .ok (.if_icmp .ne 9, 3) := by decide +kernel
theorem dX6_join_63 : decode cX6_join 63 = .ok (.iload 4, 2) := by decide +kernel
theorem dX6_join_65 : decode cX6_join 65 = .ok (.istore_n 2, 1) := by decide +kernel
theorem dX6_join_66 : decode cX6_join 66 = .ok (.iload 5, 2) := by decide +kernel
theorem dX6_join_68 : decode cX6_join 68 = .ok (.istore_n 3, 1) := by decide +kernel
theorem dX6_join_69 : decode cX6_join 69 = .ok (.iinc 4 1, 3) := by decide +kernel
theorem dX6_join_72 : decode cX6_join 72 = .ok (.goto (-50), 3) := by decide +kernel
theorem dX6_join_75 : decode cX6_join 75 = .ok (.iload_n 2, 1) := by decide +kernel
theorem dX6_join_76 : decode cX6_join 76 = .ok (.ireturn, 1) := by decide +kernel
set_option maxRecDepth 20000 in
theorem ggX6_elder_X6_has : GoodIn wsX6_elder wsX6_has := goodIn_r _ [6, 7, 8, 5, 9] (by decide +kernel) (by decide +kernel)
set_option maxRecDepth 20000 in
theorem gX6_elder_X6_has : GoodIn wsX6_elder (va_wsS RX6 112 yX6_has wsX6_has) := goodIn_app (goodIn_of _ (by decide +kernel)) ggX6_elder_X6_has
set_option maxRecDepth 20000 in
theorem ggX6_elder_X1_howManyAheadOf : GoodIn wsX6_elder wsX1_howManyAheadOf := goodIn_r _ [13, 14, 15, 4, 5, 6, 7, 8, 9, 34, 35, 36, 37, 38, 39] (by decide +kernel) (by decide +kernel)
set_option maxRecDepth 20000 in
theorem gX6_elder_X1_howManyAheadOf_n208 : GoodIn wsX6_elder (wsX1_howManyAheadOf) := ggX6_elder_X1_howManyAheadOf
theorem dX6_elder_0 : decode cX6_elder 0 = .ok (.iload_n 1, 1) := by decide +kernel
theorem dX6_elder_1 : decode cX6_elder 1 = .ok (.ifCond .lt 9, 3) := by decide +kernel
theorem dX6_elder_4 : decode cX6_elder 4 = .ok (.iload_n 1, 1) := by decide +kernel
theorem dX6_elder_5 : decode cX6_elder 5 = .ok (.bipush 6, 2) := by decide +kernel
theorem dX6_elder_7 : decode cX6_elder 7 = .ok (.if_icmp .lt 5, 3) := by decide +kernel
theorem dX6_elder_10 : decode cX6_elder 10 = .ok (.iconst (-1), 1) := by decide +kernel
theorem dX6_elder_11 : decode cX6_elder 11 = .ok (.ireturn, 1) := by decide +kernel
theorem dX6_elder_12 : decode cX6_elder 12 = .ok (.iconst 0, 1) := by decide +kernel
theorem dX6_elder_13 : decode cX6_elder 13 = .ok (.istore_n 2, 1) := by decide +kernel
theorem dX6_elder_14 : decode cX6_elder 14 = .ok (.iload_n 2, 1) := by decide +kernel
theorem dX6_elder_15 : decode cX6_elder 15 = .ok (.aload_n 0, 1) := by decide +kernel
theorem dX6_elder_16 : decode cX6_elder 16 = .ok (.getfield 55, 3) := by decide +kernel
theorem dX6_elder_19 : decode cX6_elder 19 = .ok (.getfield 205, 3) := by decide +kernel
theorem dX6_elder_22 : decode cX6_elder 22 = .ok (.if_icmp .ge 37, 3) := by decide +kernel
theorem dX6_elder_25 : decode cX6_elder 25 = .ok (.aload_n 0, 1) := by decide +kernel
theorem dX6_elder_26 : decode cX6_elder 26 = .ok (.getfield 19, 3) := by decide +kernel
theorem dX6_elder_29 : decode cX6_elder 29 = .ok (.getfield 116, 3) := by decide +kernel
theorem dX6_elder_32 : decode cX6_elder 32 = .ok (.iload_n 2, 1) := by decide +kernel
theorem dX6_elder_33 : decode cX6_elder 33 = .ok (.invokestatic 112, 3) := by decide +kernel
theorem dX6_elder_36 : decode cX6_elder 36 = .ok (.ifCond .eq 17, 3) := by decide +kernel
theorem dX6_elder_39 : decode cX6_elder 39 = .ok (.aload_n 0, 1) := by decide +kernel
theorem dX6_elder_40 : decode cX6_elder 40 = .ok (.getfield 19, 3) := by decide +kernel
theorem dX6_elder_43 : decode cX6_elder 43 = .ok (.iload_n 2, 1) := by decide +kernel
theorem dX6_elder_44 : decode cX6_elder 44 = .ok (.invokevirtual 208, 3) := by decide +kernel
theorem dX6_elder_47 : decode cX6_elder 47 = .ok (.iload_n 1, 1) := by decide +kernel
theorem dX6_elder_48 : decode cX6_elder 48 = .ok (.if_icmp .ne 5, 3) := by decide +kernel
theorem dX6_elder_51 : decode cX6_elder 51 = .ok (.iload_n 2, 1) := by decide +kernel
theorem dX6_elder_52 : decode cX6_elder 52 = .ok (.ireturn, 1) := by decide +kernel
theorem dX6_elder_53 : decode cX6_elder 53 = .ok (.iinc 2 1, 3) := by decide +kernel
theorem dX6_elder_56 : decode cX6_elder 56 = .ok (.goto (-42), 3) := by decide +kernel
theorem dX6_elder_59 : decode cX6_elder 59 = .ok (.bipush (-9), 2) := by decide +kernel
theorem dX6_elder_61 : decode cX6_elder 61 = .ok (.ireturn, 1) := by decide +kernel
set_option maxRecDepth 20000 in
theorem ggX6_odds_X6_isWork : GoodIn wsX6_odds wsX6_isWork := goodIn_r _ [7, 1, 51, 52, 53, 54, 55, 56, 57, 58, 59, 60, 61, 62, 63, 64, 65, 66, 67, 68] (by decide +kernel) (by decide +kernel)
set_option maxRecDepth 20000 in
theorem gX6_odds_X6_isWork : GoodIn wsX6_odds (wsV RX6 125 RX6 yX6_isWork wsX6_isWork) := goodIn_app (goodIn_of _ (by decide +kernel)) ggX6_odds_X6_isWork
set_option maxRecDepth 20000 in
theorem ggX6_odds_J6_bitCount_0f7a4 : GoodIn wsX6_odds wsJ6_bitCount_0f7a4 := goodIn_r _ [11, 12, 13, 14] (by decide +kernel) (by decide +kernel)
set_option maxRecDepth 20000 in
theorem gX6_odds_J6_bitCount_0f7a4 : GoodIn wsX6_odds (va_wsS RX6 197 yJ6_bitCount_0f7a4 wsJ6_bitCount_0f7a4) := goodIn_app (goodIn_of _ (by decide +kernel)) ggX6_odds_J6_bitCount_0f7a4
set_option maxRecDepth 20000 in
theorem ggX6_odds_X6_power : GoodIn wsX6_odds wsX6_power := goodIn_r _ [17] (by decide +kernel) (by decide +kernel)
set_option maxRecDepth 20000 in
theorem gX6_odds_X6_power : GoodIn wsX6_odds (va_wsS RX6 211 yX6_power wsX6_power) := goodIn_app (goodIn_of _ (by decide +kernel)) ggX6_odds_X6_power
set_option maxRecDepth 20000 in
theorem ggX6_odds_X6_roomsToDo : GoodIn wsX6_odds wsX6_roomsToDo := goodIn_r _ [21, 1, 2, 22, 23, 24, 25, 26, 27, 28, 29, 30, 31, 32, 6, 33, 34, 35, 36, 37, 38, 39, 40, 41, 42, 43, 44, 45, 46, 47, 51, 52, 53, 54, 55, 56, 57, 58, 59, 60, 61, 62, 63, 64, 65, 66, 67, 68, 69, 70, 71, 72, 73, 74] (by decide +kernel) (by decide +kernel)
set_option maxRecDepth 20000 in
theorem gX6_odds_X6_roomsToDo : GoodIn wsX6_odds (wsV RX6 214 RX6 yX6_roomsToDo wsX6_roomsToDo) := goodIn_app (goodIn_of _ (by decide +kernel)) ggX6_odds_X6_roomsToDo
set_option maxRecDepth 20000 in
theorem ggX6_odds_X6_greatestDivisor : GoodIn wsX6_odds wsX6_greatestDivisor := goodIn_r _ [50] (by decide +kernel) (by decide +kernel)
set_option maxRecDepth 20000 in
theorem gX6_odds_X6_greatestDivisor : GoodIn wsX6_odds (va_wsS RX6 217 yX6_greatestDivisor wsX6_greatestDivisor) := goodIn_app (goodIn_of _ (by decide +kernel)) ggX6_odds_X6_greatestDivisor
theorem dX6_odds_0 : decode cX6_odds 0 = .ok (.aload_n 0, 1) := by decide +kernel
theorem dX6_odds_1 : decode cX6_odds 1 = .ok (.iload_n 1, 1) := by decide +kernel
theorem dX6_odds_2 : decode cX6_odds 2 = .ok (.invokevirtual 125, 3) := by decide +kernel
theorem dX6_odds_5 : decode cX6_odds 5 = .ok (.ifCond .eq 12, 3) := by decide +kernel
theorem dX6_odds_8 : decode cX6_odds 8 = .ok (.iload_n 2, 1) := by decide +kernel
theorem dX6_odds_9 : decode cX6_odds 9 = .ok (.ifCond .lt 8, 3) := by decide +kernel
theorem dX6_odds_12 : decode cX6_odds 12 = .ok (.iload_n 2, 1) := by decide +kernel
theorem dX6_odds_13 : decode cX6_odds 13 = .ok (.iconst 1, 1) := by decide +kernel
theorem dX6_odds_14 : decode cX6_odds 14 = .ok (.if_icmp .le 5, 3) := by decide +kernel
theorem dX6_odds_17 : decode cX6_odds 17 = .ok (.iconst (-1), 1) := by decide +kernel
theorem dX6_odds_18 : decode cX6_odds 18 = .ok (.ireturn, 1) := by decide +kernel
theorem dX6_odds_19 : decode cX6_odds 19 = .ok (.aload_n 0, 1) := by decide +kernel
theorem dX6_odds_20 : decode cX6_odds 20 = .ok (.getfield 55, 3) := by decide +kernel
theorem dX6_odds_23 : decode cX6_odds 23 = .ok (.getfield 185, 3) := by decide +kernel
theorem dX6_odds_26 : decode cX6_odds 26 = .ok (.ifCond .ne 5, 3) := by decide +kernel
theorem dX6_odds_29 : decode cX6_odds 29 = .ok (.iload_n 2, 1) := by decide +kernel
theorem dX6_odds_30 : decode cX6_odds 30 = .ok (.ireturn, 1) := by decide +kernel
theorem dX6_odds_31 : decode cX6_odds 31 = .ok (.aload_n 0, 1) := by decide +kernel
theorem dX6_odds_32 : decode cX6_odds 32 = .ok (.getfield 55, 3) := by decide +kernel
theorem dX6_odds_35 : decode cX6_odds 35 = .ok (.getfield 205, 3) := by decide +kernel
theorem dX6_odds_38 : decode cX6_odds 38 = .ok (.aload_n 0, 1) := by decide +kernel
theorem dX6_odds_39 : decode cX6_odds 39 = .ok (.getfield 19, 3) := by decide +kernel
theorem dX6_odds_42 : decode cX6_odds 42 = .ok (.getfield 109, 3) := by decide +kernel
theorem dX6_odds_45 : decode cX6_odds 45 = .ok (.invokestatic 197, 3) := by decide +kernel
theorem dX6_odds_48 : decode cX6_odds 48 = .ok (.isub, 1) := by decide +kernel
theorem dX6_odds_49 : decode cX6_odds 49 = .ok (.istore_n 3, 1) := by decide +kernel
theorem dX6_odds_50 : decode cX6_odds 50 = .ok (.aload_n 0, 1) := by decide +kernel
theorem dX6_odds_51 : decode cX6_odds 51 = .ok (.getfield 55, 3) := by decide +kernel
theorem dX6_odds_54 : decode cX6_odds 54 = .ok (.getfield 185, 3) := by decide +kernel
theorem dX6_odds_57 : decode cX6_odds 57 = .ok (.iload_n 3, 1) := by decide +kernel
theorem dX6_odds_58 : decode cX6_odds 58 = .ok (.invokestatic 211, 3) := by decide +kernel
theorem dX6_odds_61 : decode cX6_odds 61 = .ok (.istore 4, 2) := by decide +kernel
theorem dX6_odds_63 : decode cX6_odds 63 = .ok (.iload 4, 2) := by decide +kernel
theorem dX6_odds_65 : decode cX6_odds 65 = .ok (.aload_n 0, 1) := by decide +kernel
theorem dX6_odds_66 : decode cX6_odds 66 = .ok (.getfield 55, 3) := by decide +kernel
theorem dX6_odds_69 : decode cX6_odds 69 = .ok (.getfield 185, 3) := by decide +kernel
theorem dX6_odds_72 : decode cX6_odds 72 = .ok (.aload_n 0, 1) := by decide +kernel
theorem dX6_odds_73 : decode cX6_odds 73 = .ok (.iload_n 1, 1) := by decide +kernel
theorem dX6_odds_74 : decode cX6_odds 74 = .ok (.invokevirtual 214, 3) := by decide +kernel
theorem dX6_odds_77 : decode cX6_odds 77 = .ok (.isub, 1) := by decide +kernel
theorem dX6_odds_78 : decode cX6_odds 78 = .ok (.iload_n 3, 1) := by decide +kernel
theorem dX6_odds_79 : decode cX6_odds 79 = .ok (.invokestatic 211, 3) := by decide +kernel
theorem dX6_odds_82 : decode cX6_odds 82 = .ok (.isub, 1) := by decide +kernel
theorem dX6_odds_83 : decode cX6_odds 83 = .ok (.istore 5, 2) := by decide +kernel
theorem dX6_odds_85 : decode cX6_odds 85 = .ok (.iload 5, 2) := by decide +kernel
theorem dX6_odds_87 : decode cX6_odds 87 = .ok (.iload 4, 2) := by decide +kernel
theorem dX6_odds_89 : decode cX6_odds 89 = .ok (.invokestatic 217, 3) := by decide +kernel
theorem dX6_odds_92 : decode cX6_odds 92 = .ok (.istore 6, 2) := by decide +kernel
theorem dX6_odds_94 : decode cX6_odds 94 = .ok (.iload 6, 2) := by decide +kernel
theorem dX6_odds_96 : decode cX6_odds 96 = .ok (.ifCond .ne 5, 3) := by decide +kernel
theorem dX6_odds_99 : decode cX6_odds 99 = .ok (.iload_n 2, 1) := by decide +kernel
theorem dX6_odds_100 : decode cX6_odds 100 = .ok (.ireturn, 1) := by decide +kernel
theorem dX6_odds_101 : decode cX6_odds 101 = .ok (.iload_n 2, 1) := by decide +kernel
theorem dX6_odds_102 : decode cX6_odds 102 = .ok (.ifCond .ne 8, 3) := by decide +kernel
theorem dX6_odds_105 : decode cX6_odds 105 = .ok (.iload 5, 2) := by decide +kernel
theorem dX6_odds_107 : decode cX6_odds 107 = .ok (.goto 5, 3) := by decide +kernel
theorem dX6_odds_110 : decode cX6_odds 110 = .ok (.iload 4, 2) := by decide +kernel
theorem dX6_odds_112 : decode cX6_odds 112 = .ok (.iload 6, 2) := by decide +kernel
theorem dX6_odds_114 : decode cX6_odds 114 = .ok (.idiv, 1) := by decide +kernel
theorem dX6_odds_115 : decode cX6_odds 115 = .ok (.ireturn, 1) := by decide +kernel
set_option maxRecDepth 20000 in
theorem ggX6_sees_X6_isWork : GoodIn wsX6_sees wsX6_isWork := goodIn_r _ [6, 7, 15, 16, 17, 18, 19, 20, 21, 22, 23, 24, 28, 29, 30, 31, 32, 33, 34, 35] (by decide +kernel) (by decide +kernel)
set_option maxRecDepth 20000 in
theorem gX6_sees_X6_isWork : GoodIn wsX6_sees (wsV RX6 125 RX6 yX6_isWork wsX6_isWork) := goodIn_app (goodIn_of _ (by decide +kernel)) ggX6_sees_X6_isWork
set_option maxRecDepth 20000 in
theorem ggX6_sees_X3_add : GoodIn wsX6_sees wsX3_add := goodIn_r _ [11, 12, 13, 14, 25, 26, 27] (by decide +kernel) (by decide +kernel)
set_option maxRecDepth 20000 in
theorem gX6_sees_X3_add_n221 : GoodIn wsX6_sees (wsX3_add) := ggX6_sees_X3_add
theorem dX6_sees_0 : decode cX6_sees 0 = .ok (.aload_n 0, 1) := by decide +kernel
theorem dX6_sees_1 : decode cX6_sees 1 = .ok (.iload_n 1, 1) := by decide +kernel
theorem dX6_sees_2 : decode cX6_sees 2 = .ok (.invokevirtual 125, 3) := by decide +kernel
theorem dX6_sees_5 : decode cX6_sees 5 = .ok (.ifCond .eq 12, 3) := by decide +kernel
theorem dX6_sees_8 : decode cX6_sees 8 = .ok (.iload_n 2, 1) := by decide +kernel
theorem dX6_sees_9 : decode cX6_sees 9 = .ok (.ifCond .lt 8, 3) := by decide +kernel
theorem dX6_sees_12 : decode cX6_sees 12 = .ok (.iload_n 2, 1) := by decide +kernel
theorem dX6_sees_13 : decode cX6_sees 13 = .ok (.iconst 1, 1) := by decide +kernel
theorem dX6_sees_14 : decode cX6_sees 14 = .ok (.if_icmp .le 5, 3) := by decide +kernel
theorem dX6_sees_17 : decode cX6_sees 17 = .ok (.iconst (-1), 1) := by decide +kernel
theorem dX6_sees_18 : decode cX6_sees 18 = .ok (.ireturn, 1) := by decide +kernel
theorem dX6_sees_19 : decode cX6_sees 19 = .ok (.aload_n 0, 1) := by decide +kernel
theorem dX6_sees_20 : decode cX6_sees 20 = .ok (.getfield 48, 3) := by decide +kernel
theorem dX6_sees_23 : decode cX6_sees 23 = .ok (.getfield 220, 3) := by decide +kernel
theorem dX6_sees_26 : decode cX6_sees 26 = .ok (.bipush 6, 2) := by decide +kernel
theorem dX6_sees_28 : decode cX6_sees 28 = .ok (.if_icmp .lt 6, 3) := by decide +kernel
theorem dX6_sees_31 : decode cX6_sees 31 = .ok (.bipush (-3), 2) := by decide +kernel
theorem dX6_sees_33 : decode cX6_sees 33 = .ok (.ireturn, 1) := by decide +kernel
theorem dX6_sees_34 : decode cX6_sees 34 = .ok (.aload_n 0, 1) := by decide +kernel
theorem dX6_sees_35 : decode cX6_sees 35 = .ok (.getfield 48, 3) := by decide +kernel
theorem dX6_sees_38 : decode cX6_sees 38 = .ok (.iload_n 1, 1) := by decide +kernel
theorem dX6_sees_39 : decode cX6_sees 39 = .ok (.iload_n 2, 1) := by decide +kernel
theorem dX6_sees_40 : decode cX6_sees 40 = .ok (.iconst 1, 1) := by decide +kernel
theorem dX6_sees_41 : decode cX6_sees 41 = .ok (.if_icmp .ne 7, 3) := by decide +kernel
theorem dX6_sees_44 : decode cX6_sees 44 = .ok (.iconst 1, 1) := by decide +kernel
theorem dX6_sees_45 : decode cX6_sees 45 = .ok (.goto 4, 3) := by decide +kernel
theorem dX6_sees_48 : decode cX6_sees 48 = .ok (.iconst 0, 1) := by decide +kernel
theorem dX6_sees_49 : decode cX6_sees 49 = .ok (.invokevirtual 221, 3) := by decide +kernel
theorem dX6_sees_52 : decode cX6_sees 52 = .ok (.aload_n 0, 1) := by decide +kernel
theorem dX6_sees_53 : decode cX6_sees 53 = .ok (.getfield 48, 3) := by decide +kernel
theorem dX6_sees_56 : decode cX6_sees 56 = .ok (.getfield 220, 3) := by decide +kernel
theorem dX6_sees_59 : decode cX6_sees 59 = .ok (.ireturn, 1) := by decide +kernel
theorem dX6_forget_0 : decode cX6_forget 0 = .ok (.aload_n 0, 1) := by decide +kernel
theorem dX6_forget_1 : decode cX6_forget 1 = .ok (.getfield 48, 3) := by decide +kernel
theorem dX6_forget_4 : decode cX6_forget 4 = .ok (.getfield 220, 3) := by decide +kernel
theorem dX6_forget_7 : decode cX6_forget 7 = .ok (.istore_n 1, 1) := by decide +kernel
theorem dX6_forget_8 : decode cX6_forget 8 = .ok (.aload_n 0, 1) := by decide +kernel
theorem dX6_forget_9 : decode cX6_forget 9 = .ok (.getfield 48, 3) := by decide +kernel
theorem dX6_forget_12 : decode cX6_forget 12 = .ok (.iconst 0, 1) := by decide +kernel
theorem dX6_forget_13 : decode cX6_forget 13 = .ok (.putfield 220, 3) := by decide +kernel
theorem dX6_forget_16 : decode cX6_forget 16 = .ok (.iload_n 1, 1) := by decide +kernel
theorem dX6_forget_17 : decode cX6_forget 17 = .ok (.ireturn, 1) := by decide +kernel
set_option maxRecDepth 20000 in
theorem ggX6_ages_X6_possibleAges : GoodIn wsX6_ages wsX6_possibleAges := goodIn_r _ [5, 6, 7, 8, 9, 10, 11, 12, 13, 14, 15, 16, 17, 18, 19, 20, 29, 30, 31, 32, 33, 34, 35, 36, 37, 38, 39, 40, 41, 42, 43, 44, 45, 46, 47, 48, 49] (by decide +kernel) (by decide +kernel)
set_option maxRecDepth 20000 in
theorem gX6_ages_X6_possibleAges : GoodIn wsX6_ages (wsV RX6 224 RX6 yX6_possibleAges wsX6_possibleAges) := goodIn_app (goodIn_of _ (by decide +kernel)) ggX6_ages_X6_possibleAges
set_option maxRecDepth 20000 in
theorem ggX6_ages_X6_leastAge : GoodIn wsX6_ages wsX6_leastAge := goodIn_r _ [24, 6, 7, 8, 9, 10, 11, 12, 13, 14, 15, 16, 17, 18, 19, 20, 29, 30, 31, 32, 33, 34, 35, 36, 37, 38, 39, 40, 41, 42, 43, 44, 45, 46, 47, 48, 49] (by decide +kernel) (by decide +kernel)
set_option maxRecDepth 20000 in
theorem gX6_ages_X6_leastAge : GoodIn wsX6_ages (wsV RX6 227 RX6 yX6_leastAge wsX6_leastAge) := goodIn_app (goodIn_of _ (by decide +kernel)) ggX6_ages_X6_leastAge
set_option maxRecDepth 20000 in
theorem ggX6_ages_X6_greatestAge : GoodIn wsX6_ages wsX6_greatestAge := goodIn_r _ [28, 6, 7, 8, 9, 10, 11, 12, 13, 14, 15, 16, 17, 18, 19, 20, 29, 30, 31, 32, 33, 34, 35, 36, 37, 38, 39, 40, 41, 42, 43, 44, 45, 46, 47, 48, 49] (by decide +kernel) (by decide +kernel)
set_option maxRecDepth 20000 in
theorem gX6_ages_X6_greatestAge : GoodIn wsX6_ages (wsV RX6 230 RX6 yX6_greatestAge wsX6_greatestAge) := goodIn_app (goodIn_of _ (by decide +kernel)) ggX6_ages_X6_greatestAge
theorem dX6_ages_0 : decode cX6_ages 0 = .ok (.iload_n 1, 1) := by decide +kernel
theorem dX6_ages_1 : decode cX6_ages 1 = .ok (.tableswitch 42 0 2 #[27, 32, 37], 27) := by decide +kernel
theorem dX6_ages_28 : decode cX6_ages 28 = .ok (.aload_n 0, 1) := by decide +kernel
theorem dX6_ages_29 : decode cX6_ages 29 = .ok (.invokevirtual 224, 3) := by decide +kernel
theorem dX6_ages_32 : decode cX6_ages 32 = .ok (.ireturn, 1) := by decide +kernel
theorem dX6_ages_33 : decode cX6_ages 33 = .ok (.aload_n 0, 1) := by decide +kernel
theorem dX6_ages_34 : decode cX6_ages 34 = .ok (.invokevirtual 227, 3) := by decide +kernel
theorem dX6_ages_37 : decode cX6_ages 37 = .ok (.ireturn, 1) := by decide +kernel
theorem dX6_ages_38 : decode cX6_ages 38 = .ok (.aload_n 0, 1) := by decide +kernel
theorem dX6_ages_39 : decode cX6_ages 39 = .ok (.invokevirtual 230, 3) := by decide +kernel
theorem dX6_ages_42 : decode cX6_ages 42 = .ok (.ireturn, 1) := by decide +kernel
theorem dX6_ages_43 : decode cX6_ages 43 = .ok (.iconst (-1), 1) := by decide +kernel
theorem dX6_ages_44 : decode cX6_ages 44 = .ok (.ireturn, 1) := by decide +kernel
set_option maxRecDepth 20000 in
theorem ggX6_next_X6_possibleAges : GoodIn wsX6_next wsX6_possibleAges := goodIn_r _ [10, 11, 1, 12, 13, 14, 15, 16, 17, 18, 19, 20, 21, 22, 23, 24, 29, 30, 31, 32, 33, 34, 35, 36, 37, 38, 47, 48, 49, 39, 40, 41, 42, 43, 44, 45, 46] (by decide +kernel) (by decide +kernel)
set_option maxRecDepth 20000 in
theorem gX6_next_X6_possibleAges : GoodIn wsX6_next (wsV RX6 224 RX6 yX6_possibleAges wsX6_possibleAges) := goodIn_app (goodIn_of _ (by decide +kernel)) ggX6_next_X6_possibleAges
set_option maxRecDepth 20000 in
theorem ggX6_next_X6_possibleAgesAtWork : GoodIn wsX6_next wsX6_possibleAgesAtWork := goodIn_r _ [28, 1, 11, 19, 20, 21, 22, 23, 24, 12, 13, 14, 15, 16, 17, 18, 29, 30, 31, 32, 33, 34, 35, 36, 37, 38, 39, 40, 41, 42, 43, 44, 45, 46, 47, 48, 49] (by decide +kernel) (by decide +kernel)
set_option maxRecDepth 20000 in
theorem gX6_next_X6_possibleAgesAtWork : GoodIn wsX6_next (wsV RX6 236 RX6 yX6_possibleAgesAtWork wsX6_possibleAgesAtWork) := goodIn_app (goodIn_of _ (by decide +kernel)) ggX6_next_X6_possibleAgesAtWork
theorem dX6_next_0 : decode cX6_next 0 = .ok (.aload_n 0, 1) := by decide +kernel
theorem dX6_next_1 : decode cX6_next 1 = .ok (.invokevirtual 224, 3) := by decide +kernel
theorem dX6_next_4 : decode cX6_next 4 = .ok (.istore_n 1, 1) := by decide +kernel
theorem dX6_next_5 : decode cX6_next 5 = .ok (.iload_n 1, 1) := by decide +kernel
theorem dX6_next_6 : decode cX6_next 6 = .ok (.iconst 1, 1) := by decide +kernel
theorem dX6_next_7 : decode cX6_next 7 = .ok (.if_icmp .gt 6, 3) := by decide +kernel
theorem dX6_next_10 : decode cX6_next 10 = .ok (.bipush (-9), 2) := by decide +kernel
theorem dX6_next_12 : decode cX6_next 12 = .ok (.ireturn, 1) := by decide +kernel
theorem dX6_next_13 : decode cX6_next 13 = .ok (.bipush (-9), 2) := by decide +kernel
theorem dX6_next_15 : decode cX6_next 15 = .ok (.istore_n 2, 1) := by decide +kernel
theorem dX6_next_16 : decode cX6_next 16 = .ok (.iload_n 1, 1) := by decide +kernel
theorem dX6_next_17 : decode cX6_next 17 = .ok (.iconst 1, 1) := by decide +kernel
theorem dX6_next_18 : decode cX6_next 18 = .ok (.iadd, 1) := by decide +kernel
theorem dX6_next_19 : decode cX6_next 19 = .ok (.istore_n 3, 1) := by decide +kernel
theorem dX6_next_20 : decode cX6_next 20 = .ok (.iconst 0, 1) := by decide +kernel
theorem dX6_next_21 : decode cX6_next 21 = .ok (.istore 4, 2) := by decide +kernel
theorem dX6_next_23 : decode cX6_next 23 = .ok (.iload 4, 2) := by decide +kernel
theorem dX6_next_25 : decode cX6_next 25 = .ok (.aload_n 0, 1) := by decide +kernel
theorem dX6_next_26 : decode cX6_next 26 = .ok (.getfield 55, 3) := by decide +kernel
theorem dX6_next_29 : decode cX6_next 29 = .ok (.getfield 233, 3) := by decide +kernel
theorem dX6_next_32 : decode cX6_next 32 = .ok (.if_icmp .ge 40, 3) := by decide +kernel
theorem dX6_next_35 : decode cX6_next 35 = .ok (.aload_n 0, 1) := by decide +kernel
theorem dX6_next_36 : decode cX6_next 36 = .ok (.iload 4, 2) := by decide +kernel
theorem dX6_next_38 : decode cX6_next 38 = .ok (.invokevirtual 236, 3) := by decide +kernel
theorem dX6_next_41 : decode cX6_next 41 = .ok (.istore 5, 2) := by decide +kernel
theorem dX6_next_43 : decode cX6_next 43 = .ok (.iload 5, 2) := by decide +kernel
theorem dX6_next_45 : decode cX6_next 45 = .ok (.iload_n 1, 1) := by decide +kernel
theorem dX6_next_46 : decode cX6_next 46 = .ok (.iload 5, 2) := by decide +kernel
theorem dX6_next_48 : decode cX6_next 48 = .ok (.isub, 1) := by decide +kernel
theorem dX6_next_49 : decode cX6_next 49 = .ok (.invokestatic 239, 3) := by decide +kernel
theorem dX6_next_52 : decode cX6_next 52 = .ok (.istore 6, 2) := by decide +kernel
theorem dX6_next_54 : decode cX6_next 54 = .ok (.iload 6, 2) := by decide +kernel
theorem dX6_next_56 : decode cX6_next 56 = .ok (.iload_n 3, 1) := by decide +kernel
theorem dX6_next_57 : decode cX6_next 57 = .ok (.if_icmp .ge 9, 3) := by decide +kernel
theorem dX6_next_60 : decode cX6_next 60 = .ok (.iload 4, 2) := by decide +kernel
theorem dX6_next_62 : decode cX6_next 62 = .ok (.istore_n 2, 1) := by decide +kernel
theorem dX6_next_63 : decode cX6_next 63 = .ok (.iload 6, 2) := by decide +kernel
theorem dX6_next_65 : decode cX6_next 65 = .ok (.istore_n 3, 1) := by decide +kernel
theorem dX6_next_66 : decode cX6_next 66 = .ok (.iinc 4 1, 3) := by decide +kernel
theorem dX6_next_69 : decode cX6_next 69 = .ok (.goto (-46), 3) := by decide +kernel
theorem dX6_next_72 : decode cX6_next 72 = .ok (.iload_n 2, 1) := by decide +kernel
theorem dX6_next_73 : decode cX6_next 73 = .ok (.ireturn, 1) := by decide +kernel
set_option maxRecDepth 20000 in
theorem ggX6_rate_X6_isMother : GoodIn wsX6_rate wsX6_isMother := goodIn_r _ [6, 7, 72, 73, 74, 75, 76, 77, 78, 79, 80, 81, 82, 83, 84, 85, 86, 87, 88, 89] (by decide +kernel) (by decide +kernel)
set_option maxRecDepth 20000 in
theorem gX6_rate_X6_isMother : GoodIn wsX6_rate (wsV RX6 106 RX6 yX6_isMother wsX6_isMother) := goodIn_app (goodIn_of _ (by decide +kernel)) ggX6_rate_X6_isMother
set_option maxRecDepth 20000 in
theorem ggX6_rate_X6_rateAttic : GoodIn wsX6_rate wsX6_rateAttic := goodIn_r _ [11, 12, 13, 14, 15, 16, 17, 5, 18, 19, 20, 21, 22, 23, 24, 72, 73, 74, 75, 76, 77, 78, 79, 80, 81, 90, 91, 92, 93, 94, 95] (by decide +kernel) (by decide +kernel)
set_option maxRecDepth 20000 in
theorem gX6_rate_X6_rateAttic : GoodIn wsX6_rate (wsV RX6 245 RX6 yX6_rateAttic wsX6_rateAttic) := goodIn_app (goodIn_of _ (by decide +kernel)) ggX6_rate_X6_rateAttic
set_option maxRecDepth 20000 in
theorem ggX6_rate_X6_rateCellar : GoodIn wsX6_rate wsX6_rateCellar := goodIn_r _ [28, 12, 29, 15, 16, 17, 5, 18, 14, 19, 20, 21, 22, 23, 24, 30, 31, 32, 33, 7, 34, 35, 36, 37, 38, 39, 40, 41, 42, 43, 44, 45, 46, 47, 48, 49, 50, 51, 52, 53, 54, 55, 56, 72, 73, 74, 75, 76, 77, 78, 79, 80, 81, 90, 91, 92, 93, 94, 95, 82, 83, 84, 85, 86, 87, 88, 89] (by decide +kernel) (by decide +kernel)
set_option maxRecDepth 20000 in
theorem gX6_rate_X6_rateCellar : GoodIn wsX6_rate (wsV RX6 248 RX6 yX6_rateCellar wsX6_rateCellar) := goodIn_app (goodIn_of _ (by decide +kernel)) ggX6_rate_X6_rateCellar
set_option maxRecDepth 20000 in
theorem ggX6_rate_X6_rateGable : GoodIn wsX6_rate wsX6_rateGable := goodIn_r _ [60, 12, 61, 8, 9, 10, 5, 11, 13, 14, 15, 16, 17, 18, 19, 20, 21, 22, 23, 24, 72, 73, 74, 75, 76, 77, 78, 79, 80, 81, 90, 91, 92, 93, 94, 95] (by decide +kernel) (by decide +kernel)
set_option maxRecDepth 20000 in
theorem gX6_rate_X6_rateGable : GoodIn wsX6_rate (wsV RX6 251 RX6 yX6_rateGable wsX6_rateGable) := goodIn_app (goodIn_of _ (by decide +kernel)) ggX6_rate_X6_rateGable
set_option maxRecDepth 20000 in
theorem ggX6_rate_X6_rateCrypt : GoodIn wsX6_rate wsX6_rateCrypt := goodIn_r _ [65, 12, 66, 25, 26, 27, 5, 28, 29, 15, 16, 17, 18, 14, 19, 20, 21, 22, 23, 24, 30, 31, 32, 33, 7, 34, 35, 36, 37, 38, 39, 40, 41, 42, 43, 44, 45, 46, 47, 48, 49, 50, 51, 52, 53, 54, 55, 56, 72, 73, 74, 75, 76, 77, 78, 79, 80, 81, 90, 91, 92, 93, 94, 95, 82, 83, 84, 85, 86, 87, 88, 89] (by decide +kernel) (by decide +kernel)
set_option maxRecDepth 20000 in
theorem gX6_rate_X6_rateCrypt : GoodIn wsX6_rate (wsV RX6 254 RX6 yX6_rateCrypt wsX6_rateCrypt) := goodIn_app (goodIn_of _ (by decide +kernel)) ggX6_rate_X6_rateCrypt
set_option maxRecDepth 20000 in
theorem ggX6_rate_X6_rateCart : GoodIn wsX6_rate wsX6_rateCart := goodIn_r _ [70, 12, 71, 14, 15, 16, 17, 5, 18, 19, 20, 21, 22, 23, 24, 50, 51, 52, 53, 54, 55, 56, 72, 73, 74, 75, 76, 77, 78, 79, 80, 81, 90, 91, 92, 93, 94, 95] (by decide +kernel) (by decide +kernel)
set_option maxRecDepth 20000 in
theorem gX6_rate_X6_rateCart : GoodIn wsX6_rate (wsV RX6 257 RX6 yX6_rateCart wsX6_rateCart) := goodIn_app (goodIn_of _ (by decide +kernel)) ggX6_rate_X6_rateCart
set_option maxRecDepth 20000 in
theorem ggX6_rate_X6_rateChild : GoodIn wsX6_rate wsX6_rateChild := goodIn_r _ [18, 12, 14, 19, 20, 5, 21, 22, 23, 24, 72, 73, 74, 75, 76, 77, 78, 79, 80, 81, 90, 91, 92, 93, 94, 95] (by decide +kernel) (by decide +kernel)
set_option maxRecDepth 20000 in
theorem gX6_rate_X6_rateChild : GoodIn wsX6_rate (wsV RX6 260 RX6 yX6_rateChild wsX6_rateChild) := goodIn_app (goodIn_of _ (by decide +kernel)) ggX6_rate_X6_rateChild
theorem dX6_rate_0 : decode cX6_rate 0 = .ok (.iload_n 1, 1) := by decide +kernel
theorem dX6_rate_1 : decode cX6_rate 1 = .ok (.ifCond .lt 17, 3) := by decide +kernel
theorem dX6_rate_4 : decode cX6_rate 4 = .ok (.iload_n 1, 1) := by decide +kernel
theorem dX6_rate_5 : decode cX6_rate 5 = .ok (.bipush 6, 2) := by decide +kernel
theorem dX6_rate_7 : decode cX6_rate 7 = .ok (.if_icmp .ge 11, 3) := by decide +kernel
theorem dX6_rate_10 : decode cX6_rate 10 = .ok (.aload_n 0, 1) := by decide +kernel
theorem dX6_rate_11 : decode cX6_rate 11 = .ok (.iload_n 2, 1) := by decide +kernel
theorem dX6_rate_12 : decode cX6_rate 12 = .ok (.invokevirtual 106, 3) := by decide +kernel
theorem dX6_rate_15 : decode cX6_rate 15 = .ok (.ifCond .ne 6, 3) := by decide +kernel
theorem dX6_rate_18 : decode cX6_rate 18 = .ok (.ldc 244, 2) := by decide +kernel
theorem dX6_rate_20 : decode cX6_rate 20 = .ok (.ireturn, 1) := by decide +kernel
theorem dX6_rate_21 : decode cX6_rate 21 = .ok (.iload_n 1, 1) := by decide +kernel
theorem dX6_rate_22 : decode cX6_rate 22 = .ok (.tableswitch 64 1 5 #[34, 40, 46, 52, 58], 34) := by decide +kernel
theorem dX6_rate_56 : decode cX6_rate 56 = .ok (.aload_n 0, 1) := by decide +kernel
theorem dX6_rate_57 : decode cX6_rate 57 = .ok (.iload_n 2, 1) := by decide +kernel
theorem dX6_rate_58 : decode cX6_rate 58 = .ok (.invokevirtual 245, 3) := by decide +kernel
theorem dX6_rate_61 : decode cX6_rate 61 = .ok (.ireturn, 1) := by decide +kernel
theorem dX6_rate_62 : decode cX6_rate 62 = .ok (.aload_n 0, 1) := by decide +kernel
theorem dX6_rate_63 : decode cX6_rate 63 = .ok (.iload_n 2, 1) := by decide +kernel
theorem dX6_rate_64 : decode cX6_rate 64 = .ok (.invokevirtual 248, 3) := by decide +kernel
theorem dX6_rate_67 : decode cX6_rate 67 = .ok (.ireturn, 1) := by decide +kernel
theorem dX6_rate_68 : decode cX6_rate 68 = .ok (.aload_n 0, 1) := by decide +kernel
theorem dX6_rate_69 : decode cX6_rate 69 = .ok (.iload_n 2, 1) := by decide +kernel
theorem dX6_rate_70 : decode cX6_rate 70 = .ok (.invokevirtual 251, 3) := by decide +kernel
theorem dX6_rate_73 : decode cX6_rate 73 = .ok (.ireturn, 1) := by decide +kernel
theorem dX6_rate_74 : decode cX6_rate 74 = .ok (.aload_n 0, 1) := by decide +kernel
theorem dX6_rate_75 : decode cX6_rate 75 = .ok (.iload_n 2, 1) := by decide +kernel
theorem dX6_rate_76 : decode cX6_rate 76 = .ok (.invokevirtual 254, 3) := by decide +kernel
theorem dX6_rate_79 : decode cX6_rate 79 = .ok (.ireturn, 1) := by decide +kernel
theorem dX6_rate_80 : decode cX6_rate 80 = .ok (.aload_n 0, 1) := by decide +kernel
theorem dX6_rate_81 : decode cX6_rate 81 = .ok (.iload_n 2, 1) := by decide +kernel
theorem dX6_rate_82 : decode cX6_rate 82 = .ok (.invokevirtual 257, 3) := by decide +kernel
theorem dX6_rate_85 : decode cX6_rate 85 = .ok (.ireturn, 1) := by decide +kernel
theorem dX6_rate_86 : decode cX6_rate 86 = .ok (.aload_n 0, 1) := by decide +kernel
theorem dX6_rate_87 : decode cX6_rate 87 = .ok (.iload_n 2, 1) := by decide +kernel
theorem dX6_rate_88 : decode cX6_rate 88 = .ok (.invokevirtual 260, 3) := by decide +kernel
theorem dX6_rate_91 : decode cX6_rate 91 = .ok (.ireturn, 1) := by decide +kernel
set_option maxRecDepth 20000 in
theorem ggX6_keep_X6_isImage : GoodIn wsX6_keep wsX6_isImage := goodIn_r _ [7] (by decide +kernel) (by decide +kernel)
set_option maxRecDepth 20000 in
theorem gX6_keep_X6_isImage : GoodIn wsX6_keep (va_wsS RX6 263 yX6_isImage wsX6_isImage) := goodIn_app (goodIn_of _ (by decide +kernel)) ggX6_keep_X6_isImage
set_option maxRecDepth 20000 in
theorem ggX6_keep_X1_become : GoodIn wsX6_keep wsX1_become := goodIn_r _ [11, 12, 13, 14, 15, 16, 17, 18, 19, 20, 21, 32, 33, 34, 35, 36, 37] (by decide +kernel) (by decide +kernel)
set_option maxRecDepth 20000 in
theorem gX6_keep_X1_become_n266 : GoodIn wsX6_keep (wsX1_become) := ggX6_keep_X1_become
theorem dX6_keep_0 : decode cX6_keep 0 = .ok (.iload_n 1, 1) := by decide +kernel
theorem dX6_keep_1 : decode cX6_keep 1 = .ok (.invokestatic 263, 3) := by decide +kernel
theorem dX6_keep_4 : decode cX6_keep 4 = .ok (.ifCond .ne 5, 3) := by decide +kernel
theorem dX6_keep_7 : decode cX6_keep 7 = .ok (.iconst (-1), 1) := by decide +kernel
theorem dX6_keep_8 : decode cX6_keep 8 = .ok (.ireturn, 1) := by decide +kernel
theorem dX6_keep_9 : decode cX6_keep 9 = .ok (.aload_n 0, 1) := by decide +kernel
theorem dX6_keep_10 : decode cX6_keep 10 = .ok (.getfield 30, 3) := by decide +kernel
theorem dX6_keep_13 : decode cX6_keep 13 = .ok (.iload_n 1, 1) := by decide +kernel
theorem dX6_keep_14 : decode cX6_keep 14 = .ok (.aaload, 1) := by decide +kernel
theorem dX6_keep_15 : decode cX6_keep 15 = .ok (.aload_n 0, 1) := by decide +kernel
theorem dX6_keep_16 : decode cX6_keep 16 = .ok (.getfield 19, 3) := by decide +kernel
theorem dX6_keep_19 : decode cX6_keep 19 = .ok (.invokevirtual 266, 3) := by decide +kernel
theorem dX6_keep_22 : decode cX6_keep 22 = .ok (.aload_n 0, 1) := by decide +kernel
theorem dX6_keep_23 : decode cX6_keep 23 = .ok (.getfield 34, 3) := by decide +kernel
theorem dX6_keep_26 : decode cX6_keep 26 = .ok (.iload_n 1, 1) := by decide +kernel
theorem dX6_keep_27 : decode cX6_keep 27 = .ok (.iconst 1, 1) := by decide +kernel
theorem dX6_keep_28 : decode cX6_keep 28 = .ok (.bastore, 1) := by decide +kernel
theorem dX6_keep_29 : decode cX6_keep 29 = .ok (.aload_n 0, 1) := by decide +kernel
theorem dX6_keep_30 : decode cX6_keep 30 = .ok (.getfield 19, 3) := by decide +kernel
theorem dX6_keep_33 : decode cX6_keep 33 = .ok (.getfield 141, 3) := by decide +kernel
theorem dX6_keep_36 : decode cX6_keep 36 = .ok (.ireturn, 1) := by decide +kernel
set_option maxRecDepth 20000 in
theorem ggX6_back_X6_isImage : GoodIn wsX6_back wsX6_isImage := goodIn_r _ [8] (by decide +kernel) (by decide +kernel)
set_option maxRecDepth 20000 in
theorem gX6_back_X6_isImage : GoodIn wsX6_back (va_wsS RX6 263 yX6_isImage wsX6_isImage) := goodIn_app (goodIn_of _ (by decide +kernel)) ggX6_back_X6_isImage
set_option maxRecDepth 20000 in
theorem ggX6_back_X1_become : GoodIn wsX6_back wsX1_become := goodIn_r _ [12, 13, 14, 15, 16, 17, 18, 19, 20, 21, 22, 36, 37, 38, 39, 40, 41] (by decide +kernel) (by decide +kernel)
set_option maxRecDepth 20000 in
theorem gX6_back_X1_become_n266 : GoodIn wsX6_back (wsX1_become) := ggX6_back_X1_become
theorem dX6_back_0 : decode cX6_back 0 = .ok (.iload_n 1, 1) := by decide +kernel
theorem dX6_back_1 : decode cX6_back 1 = .ok (.invokestatic 263, 3) := by decide +kernel
theorem dX6_back_4 : decode cX6_back 4 = .ok (.ifCond .ne 5, 3) := by decide +kernel
theorem dX6_back_7 : decode cX6_back 7 = .ok (.iconst (-1), 1) := by decide +kernel
theorem dX6_back_8 : decode cX6_back 8 = .ok (.ireturn, 1) := by decide +kernel
theorem dX6_back_9 : decode cX6_back 9 = .ok (.aload_n 0, 1) := by decide +kernel
theorem dX6_back_10 : decode cX6_back 10 = .ok (.getfield 34, 3) := by decide +kernel
theorem dX6_back_13 : decode cX6_back 13 = .ok (.iload_n 1, 1) := by decide +kernel
theorem dX6_back_14 : decode cX6_back 14 = .ok (.baload, 1) := by decide +kernel
theorem dX6_back_15 : decode cX6_back 15 = .ok (.ifCond .ne 6, 3) := by decide +kernel
theorem dX6_back_18 : decode cX6_back 18 = .ok (.bipush (-2), 2) := by decide +kernel
theorem dX6_back_20 : decode cX6_back 20 = .ok (.ireturn, 1) := by decide +kernel
theorem dX6_back_21 : decode cX6_back 21 = .ok (.aload_n 0, 1) := by decide +kernel
theorem dX6_back_22 : decode cX6_back 22 = .ok (.getfield 19, 3) := by decide +kernel
theorem dX6_back_25 : decode cX6_back 25 = .ok (.aload_n 0, 1) := by decide +kernel
theorem dX6_back_26 : decode cX6_back 26 = .ok (.getfield 30, 3) := by decide +kernel
theorem dX6_back_29 : decode cX6_back 29 = .ok (.iload_n 1, 1) := by decide +kernel
theorem dX6_back_30 : decode cX6_back 30 = .ok (.aaload, 1) := by decide +kernel
theorem dX6_back_31 : decode cX6_back 31 = .ok (.invokevirtual 266, 3) := by decide +kernel
theorem dX6_back_34 : decode cX6_back 34 = .ok (.aload_n 0, 1) := by decide +kernel
theorem dX6_back_35 : decode cX6_back 35 = .ok (.getfield 26, 3) := by decide +kernel
theorem dX6_back_38 : decode cX6_back 38 = .ok (.iconst 0, 1) := by decide +kernel
theorem dX6_back_39 : decode cX6_back 39 = .ok (.putfield 148, 3) := by decide +kernel
theorem dX6_back_42 : decode cX6_back 42 = .ok (.aload_n 0, 1) := by decide +kernel
theorem dX6_back_43 : decode cX6_back 43 = .ok (.getfield 19, 3) := by decide +kernel
theorem dX6_back_46 : decode cX6_back 46 = .ok (.getfield 141, 3) := by decide +kernel
theorem dX6_back_49 : decode cX6_back 49 = .ok (.ireturn, 1) := by decide +kernel
theorem dX6_count_0 : decode cX6_count 0 = .ok (.iload_n 1, 1) := by decide +kernel
theorem dX6_count_1 : decode cX6_count 1 = .ok (.tableswitch 87 0 5 #[39, 47, 55, 63, 71, 79], 39) := by decide +kernel
theorem dX6_count_40 : decode cX6_count 40 = .ok (.aload_n 0, 1) := by decide +kernel
theorem dX6_count_41 : decode cX6_count 41 = .ok (.getfield 55, 3) := by decide +kernel
theorem dX6_count_44 : decode cX6_count 44 = .ok (.getfield 185, 3) := by decide +kernel
theorem dX6_count_47 : decode cX6_count 47 = .ok (.ireturn, 1) := by decide +kernel
theorem dX6_count_48 : decode cX6_count 48 = .ok (.aload_n 0, 1) := by decide +kernel
theorem dX6_count_49 : decode cX6_count 49 = .ok (.getfield 55, 3) := by decide +kernel
theorem dX6_count_52 : decode cX6_count 52 = .ok (.getfield 205, 3) := by decide +kernel
theorem dX6_count_55 : decode cX6_count 55 = .ok (.ireturn, 1) := by decide +kernel
theorem dX6_count_56 : decode cX6_count 56 = .ok (.aload_n 0, 1) := by decide +kernel
theorem dX6_count_57 : decode cX6_count 57 = .ok (.getfield 55, 3) := by decide +kernel
theorem dX6_count_60 : decode cX6_count 60 = .ok (.getfield 233, 3) := by decide +kernel
theorem dX6_count_63 : decode cX6_count 63 = .ok (.ireturn, 1) := by decide +kernel
theorem dX6_count_64 : decode cX6_count 64 = .ok (.aload_n 0, 1) := by decide +kernel
theorem dX6_count_65 : decode cX6_count 65 = .ok (.getfield 55, 3) := by decide +kernel
theorem dX6_count_68 : decode cX6_count 68 = .ok (.getfield 155, 3) := by decide +kernel
theorem dX6_count_71 : decode cX6_count 71 = .ok (.ireturn, 1) := by decide +kernel
theorem dX6_count_72 : decode cX6_count 72 = .ok (.aload_n 0, 1) := by decide +kernel
theorem dX6_count_73 : decode cX6_count 73 = .ok (.getfield 48, 3) := by decide +kernel
theorem dX6_count_76 : decode cX6_count 76 = .ok (.getfield 220, 3) := by decide +kernel
theorem dX6_count_79 : decode cX6_count 79 = .ok (.ireturn, 1) := by decide +kernel
theorem dX6_count_80 : decode cX6_count 80 = .ok (.aload_n 0, 1) := by decide +kernel
theorem dX6_count_81 : decode cX6_count 81 = .ok (.getfield 10, 3) := by decide +kernel
theorem dX6_count_84 : decode cX6_count 84 = .ok (.getfield 70, 3) := by decide +kernel
theorem dX6_count_87 : decode cX6_count 87 = .ok (.ireturn, 1) := by decide +kernel
theorem dX6_count_88 : decode cX6_count 88 = .ok (.iconst (-1), 1) := by decide +kernel
theorem dX6_count_89 : decode cX6_count 89 = .ok (.ireturn, 1) := by decide +kernel
theorem dX6_trace_0 : decode cX6_trace 0 = .ok (.aload_n 0, 1) := by decide +kernel
theorem dX6_trace_1 : decode cX6_trace 1 = .ok (.getfield 62, 3) := by decide +kernel
theorem dX6_trace_4 : decode cX6_trace 4 = .ok (.lreturn, 1) := by decide +kernel
set_option maxRecDepth 20000 in
theorem ggX6_beginAnew_X1_begin : GoodIn wsX6_beginAnew wsX1_begin := goodIn_r _ [9, 10, 11, 12, 13, 14, 15, 16, 17, 34, 35, 36, 37, 38, 39, 40, 41, 42, 43, 44, 45, 46, 47] (by decide +kernel) (by decide +kernel)
set_option maxRecDepth 20000 in
theorem gX6_beginAnew_X1_begin_n66 : GoodIn wsX6_beginAnew (wsX1_begin) := ggX6_beginAnew_X1_begin
theorem dX6_beginAnew_0 : decode cX6_beginAnew 0 = .ok (.aload_n 0, 1) := by decide +kernel
theorem dX6_beginAnew_1 : decode cX6_beginAnew 1 = .ok (.getfield 19, 3) := by decide +kernel
theorem dX6_beginAnew_4 : decode cX6_beginAnew 4 = .ok (.aload_n 0, 1) := by decide +kernel
theorem dX6_beginAnew_5 : decode cX6_beginAnew 5 = .ok (.getfield 55, 3) := by decide +kernel
theorem dX6_beginAnew_8 : decode cX6_beginAnew 8 = .ok (.invokevirtual 66, 3) := by decide +kernel
theorem dX6_beginAnew_11 : decode cX6_beginAnew 11 = .ok (.aload_n 0, 1) := by decide +kernel
theorem dX6_beginAnew_12 : decode cX6_beginAnew 12 = .ok (.getfield 26, 3) := by decide +kernel
theorem dX6_beginAnew_15 : decode cX6_beginAnew 15 = .ok (.iconst 0, 1) := by decide +kernel
theorem dX6_beginAnew_16 : decode cX6_beginAnew 16 = .ok (.putfield 148, 3) := by decide +kernel
theorem dX6_beginAnew_19 : decode cX6_beginAnew 19 = .ok (.aload_n 0, 1) := by decide +kernel
theorem dX6_beginAnew_20 : decode cX6_beginAnew 20 = .ok (.getfield 48, 3) := by decide +kernel
theorem dX6_beginAnew_23 : decode cX6_beginAnew 23 = .ok (.iconst 0, 1) := by decide +kernel
theorem dX6_beginAnew_24 : decode cX6_beginAnew 24 = .ok (.putfield 220, 3) := by decide +kernel
theorem dX6_beginAnew_27 : decode cX6_beginAnew 27 = .ok (.iconst 0, 1) := by decide +kernel
theorem dX6_beginAnew_28 : decode cX6_beginAnew 28 = .ok (.istore_n 1, 1) := by decide +kernel
theorem dX6_beginAnew_29 : decode cX6_beginAnew 29 = .ok (.iload_n 1, 1) := by decide +kernel
theorem dX6_beginAnew_30 : decode cX6_beginAnew 30 = .ok (.iconst 2, 1) := by decide +kernel
theorem dX6_beginAnew_31 : decode cX6_beginAnew 31 = .ok (.if_icmp .ge 16, 3) := by decide +kernel
theorem dX6_beginAnew_34 : decode cX6_beginAnew 34 = .ok (.aload_n 0, 1) := by decide +kernel
theorem dX6_beginAnew_35 : decode cX6_beginAnew 35 = .ok (.getfield 34, 3) := by decide +kernel
theorem dX6_beginAnew_38 : decode cX6_beginAnew 38 = .ok (.iload_n 1, 1) := by decide +kernel
theorem dX6_beginAnew_39 : decode cX6_beginAnew 39 = .ok (.iconst 0, 1) := by decide +kernel
theorem dX6_beginAnew_40 : decode cX6_beginAnew 40 = .ok (.bastore, 1) := by decide +kernel
theorem dX6_beginAnew_41 : decode cX6_beginAnew 41 = .ok (.iinc 1 1, 3) := by decide +kernel
theorem dX6_beginAnew_44 : decode cX6_beginAnew 44 = .ok (.goto (-15), 3) := by decide +kernel
theorem dX6_beginAnew_47 : decode cX6_beginAnew 47 = .ok (.return_, 1) := by decide +kernel
theorem dX6_isRoom_0 : decode cX6_isRoom 0 = .ok (.iload_n 1, 1) := by decide +kernel
theorem dX6_isRoom_1 : decode cX6_isRoom 1 = .ok (.ifCond .lt 18, 3) := by decide +kernel
theorem dX6_isRoom_4 : decode cX6_isRoom 4 = .ok (.iload_n 1, 1) := by decide +kernel
theorem dX6_isRoom_5 : decode cX6_isRoom 5 = .ok (.aload_n 0, 1) := by decide +kernel
theorem dX6_isRoom_6 : decode cX6_isRoom 6 = .ok (.getfield 55, 3) := by decide +kernel
theorem dX6_isRoom_9 : decode cX6_isRoom 9 = .ok (.getfield 185, 3) := by decide +kernel
theorem dX6_isRoom_12 : decode cX6_isRoom 12 = .ok (.if_icmp .ge 7, 3) := by decide +kernel
theorem dX6_isRoom_15 : decode cX6_isRoom 15 = .ok (.iconst 1, 1) := by decide +kernel
theorem dX6_isRoom_16 : decode cX6_isRoom 16 = .ok (.goto 4, 3) := by decide +kernel
theorem dX6_isRoom_19 : decode cX6_isRoom 19 = .ok (.iconst 0, 1) := by decide +kernel
theorem dX6_isRoom_20 : decode cX6_isRoom 20 = .ok (.ireturn, 1) := by decide +kernel
theorem dX6_isMother_0 : decode cX6_isMother 0 = .ok (.iload_n 1, 1) := by decide +kernel
theorem dX6_isMother_1 : decode cX6_isMother 1 = .ok (.ifCond .lt 18, 3) := by decide +kernel
theorem dX6_isMother_4 : decode cX6_isMother 4 = .ok (.iload_n 1, 1) := by decide +kernel
theorem dX6_isMother_5 : decode cX6_isMother 5 = .ok (.aload_n 0, 1) := by decide +kernel
theorem dX6_isMother_6 : decode cX6_isMother 6 = .ok (.getfield 55, 3) := by decide +kernel
theorem dX6_isMother_9 : decode cX6_isMother 9 = .ok (.getfield 205, 3) := by decide +kernel
theorem dX6_isMother_12 : decode cX6_isMother 12 = .ok (.if_icmp .ge 7, 3) := by decide +kernel
theorem dX6_isMother_15 : decode cX6_isMother 15 = .ok (.iconst 1, 1) := by decide +kernel
theorem dX6_isMother_16 : decode cX6_isMother 16 = .ok (.goto 4, 3) := by decide +kernel
theorem dX6_isMother_19 : decode cX6_isMother 19 = .ok (.iconst 0, 1) := by decide +kernel
theorem dX6_isMother_20 : decode cX6_isMother 20 = .ok (.ireturn, 1) := by decide +kernel
theorem dX6_isWork_0 : decode cX6_isWork 0 = .ok (.iload_n 1, 1) := by decide +kernel
theorem dX6_isWork_1 : decode cX6_isWork 1 = .ok (.ifCond .lt 18, 3) := by decide +kernel
theorem dX6_isWork_4 : decode cX6_isWork 4 = .ok (.iload_n 1, 1) := by decide +kernel
theorem dX6_isWork_5 : decode cX6_isWork 5 = .ok (.aload_n 0, 1) := by decide +kernel
theorem dX6_isWork_6 : decode cX6_isWork 6 = .ok (.getfield 55, 3) := by decide +kernel
theorem dX6_isWork_9 : decode cX6_isWork 9 = .ok (.getfield 233, 3) := by decide +kernel
theorem dX6_isWork_12 : decode cX6_isWork 12 = .ok (.if_icmp .ge 7, 3) := by decide +kernel
theorem dX6_isWork_15 : decode cX6_isWork 15 = .ok (.iconst 1, 1) := by decide +kernel
theorem dX6_isWork_16 : decode cX6_isWork 16 = .ok (.goto 4, 3) := by decide +kernel
theorem dX6_isWork_19 : decode cX6_isWork 19 = .ok (.iconst 0, 1) := by decide +kernel
theorem dX6_isWork_20 : decode cX6_isWork 20 = .ok (.ireturn, 1) := by decide +kernel
theorem dX6_isImage_0 : decode cX6_isImage 0 = .ok (.iload_n 0, 1) := by decide +kernel
theorem dX6_isImage_1 : decode cX6_isImage 1 = .ok (.ifCond .lt 12, 3) := by decide +kernel
theorem dX6_isImage_4 : decode cX6_isImage 4 = .ok (.iload_n 0, 1) := by decide +kernel
theorem dX6_isImage_5 : decode cX6_isImage 5 = .ok (.iconst 2, 1) := by decide +kernel
theorem dX6_isImage_6 : decode cX6_isImage 6 = .ok (.if_icmp .ge 7, 3) := by decide +kernel
theorem dX6_isImage_9 : decode cX6_isImage 9 = .ok (.iconst 1, 1) := by decide +kernel
theorem dX6_isImage_10 : decode cX6_isImage 10 = .ok (.goto 4, 3) := by decide +kernel
theorem dX6_isImage_13 : decode cX6_isImage 13 = .ok (.iconst 0, 1) := by decide +kernel
theorem dX6_isImage_14 : decode cX6_isImage 14 = .ok (.ireturn, 1) := by decide +kernel
theorem dX6_bit_0 : decode cX6_bit 0 = .ok (.iconst 1, 1) := by decide +kernel
theorem dX6_bit_1 : decode cX6_bit 1 = .ok (.iload_n 0, 1) := by decide +kernel
theorem dX6_bit_2 : decode cX6_bit 2 = .ok (.ishl, 1) := by decide +kernel
theorem dX6_bit_3 : decode cX6_bit 3 = .ok (.ireturn, 1) := by decide +kernel
set_option maxRecDepth 20000 in
theorem ggX6_has_X6_bit : GoodIn wsX6_has wsX6_bit := goodIn_r _ [4] (by decide +kernel) (by decide +kernel)
set_option maxRecDepth 20000 in
theorem gX6_has_X6_bit : GoodIn wsX6_has (va_wsS RX6 170 yX6_bit wsX6_bit) := goodIn_app (goodIn_of _ (by decide +kernel)) ggX6_has_X6_bit
theorem dX6_has_0 : decode cX6_has 0 = .ok (.iload_n 0, 1) := by decide +kernel
theorem dX6_has_1 : decode cX6_has 1 = .ok (.iload_n 1, 1) := by decide +kernel
theorem dX6_has_2 : decode cX6_has 2 = .ok (.invokestatic 170, 3) := by decide +kernel
theorem dX6_has_5 : decode cX6_has 5 = .ok (.iand, 1) := by decide +kernel
theorem dX6_has_6 : decode cX6_has 6 = .ok (.ifCond .eq 7, 3) := by decide +kernel
theorem dX6_has_9 : decode cX6_has 9 = .ok (.iconst 1, 1) := by decide +kernel
theorem dX6_has_10 : decode cX6_has 10 = .ok (.goto 4, 3) := by decide +kernel
theorem dX6_has_13 : decode cX6_has 13 = .ok (.iconst 0, 1) := by decide +kernel
theorem dX6_has_14 : decode cX6_has 14 = .ok (.ireturn, 1) := by decide +kernel
set_option maxRecDepth 20000 in
theorem ggX6_worksOfChild_X6_has : GoodIn wsX6_worksOfChild wsX6_has := goodIn_r _ [6, 7, 8, 5, 9] (by decide +kernel) (by decide +kernel)
set_option maxRecDepth 20000 in
theorem gX6_worksOfChild_X6_has : GoodIn wsX6_worksOfChild (va_wsS RX6 112 yX6_has wsX6_has) := goodIn_app (goodIn_of _ (by decide +kernel)) ggX6_worksOfChild_X6_has
set_option maxRecDepth 20000 in
theorem ggX6_worksOfChild_X5_worksAt : GoodIn wsX6_worksOfChild wsX5_worksAt := goodIn_r _ [13, 14, 15, 16, 17, 11, 18, 19, 20, 21, 22, 23, 24, 25, 8, 5, 9, 42, 43, 44, 45, 46, 47, 48, 49] (by decide +kernel) (by decide +kernel)
set_option maxRecDepth 20000 in
theorem gX6_worksOfChild_X5_worksAt_n191 : GoodIn wsX6_worksOfChild (wsX5_worksAt) := ggX6_worksOfChild_X5_worksAt
theorem dX6_worksOfChild_0 : decode cX6_worksOfChild 0 = .ok (.aload_n 0, 1) := by decide +kernel
theorem dX6_worksOfChild_1 : decode cX6_worksOfChild 1 = .ok (.getfield 19, 3) := by decide +kernel
theorem dX6_worksOfChild_4 : decode cX6_worksOfChild 4 = .ok (.getfield 116, 3) := by decide +kernel
theorem dX6_worksOfChild_7 : decode cX6_worksOfChild 7 = .ok (.iload_n 1, 1) := by decide +kernel
theorem dX6_worksOfChild_8 : decode cX6_worksOfChild 8 = .ok (.invokestatic 112, 3) := by decide +kernel
theorem dX6_worksOfChild_11 : decode cX6_worksOfChild 11 = .ok (.ifCond .eq 22, 3) := by decide +kernel
theorem dX6_worksOfChild_14 : decode cX6_worksOfChild 14 = .ok (.aload_n 0, 1) := by decide +kernel
theorem dX6_worksOfChild_15 : decode cX6_worksOfChild 15 = .ok (.getfield 55, 3) := by decide +kernel
theorem dX6_worksOfChild_18 : decode cX6_worksOfChild 18 = .ok (.aload_n 0, 1) := by decide +kernel
theorem dX6_worksOfChild_19 : decode cX6_worksOfChild 19 = .ok (.getfield 19, 3) := by decide +kernel
theorem dX6_worksOfChild_22 : decode cX6_worksOfChild 22 = .ok (.getfield 119, 3) := by decide +kernel
theorem dX6_worksOfChild_25 : decode cX6_worksOfChild 25 = .ok (.iload_n 1, 1) := by decide +kernel
theorem dX6_worksOfChild_26 : decode cX6_worksOfChild 26 = .ok (.iaload, 1) := by decide +kernel
theorem dX6_worksOfChild_27 : decode cX6_worksOfChild 27 = .ok (.invokevirtual 191, 3) := by decide +kernel
theorem dX6_worksOfChild_30 : decode cX6_worksOfChild 30 = .ok (.goto 4, 3) := by decide +kernel
theorem dX6_worksOfChild_33 : decode cX6_worksOfChild 33 = .ok (.iconst 0, 1) := by decide +kernel
theorem dX6_worksOfChild_34 : decode cX6_worksOfChild 34 = .ok (.ireturn, 1) := by decide +kernel
set_option maxRecDepth 20000 in
theorem ggX6_whoCanDo_X6_has : GoodIn wsX6_whoCanDo wsX6_has := goodIn_r _ [6, 7, 8, 5, 9] (by decide +kernel) (by decide +kernel)
set_option maxRecDepth 20000 in
theorem gX6_whoCanDo_X6_has : GoodIn wsX6_whoCanDo (va_wsS RX6 112 yX6_has wsX6_has) := goodIn_app (goodIn_of _ (by decide +kernel)) ggX6_whoCanDo_X6_has
set_option maxRecDepth 20000 in
theorem ggX6_whoCanDo_X5_does : GoodIn wsX6_whoCanDo wsX5_does := goodIn_r _ [13, 14, 15, 16, 17, 11, 18, 19, 20, 31, 32, 33, 34, 35, 36, 37, 38] (by decide +kernel) (by decide +kernel)
set_option maxRecDepth 20000 in
theorem gX6_whoCanDo_X5_does_n269 : GoodIn wsX6_whoCanDo (wsX5_does) := ggX6_whoCanDo_X5_does
set_option maxRecDepth 20000 in
theorem ggX6_whoCanDo_X6_bit : GoodIn wsX6_whoCanDo wsX6_bit := goodIn_r _ [9] (by decide +kernel) (by decide +kernel)
set_option maxRecDepth 20000 in
theorem gX6_whoCanDo_X6_bit : GoodIn wsX6_whoCanDo (va_wsS RX6 170 yX6_bit wsX6_bit) := goodIn_app (goodIn_of _ (by decide +kernel)) ggX6_whoCanDo_X6_bit
theorem dX6_whoCanDo_0 : decode cX6_whoCanDo 0 = .ok (.iconst 0, 1) := by decide +kernel
theorem dX6_whoCanDo_1 : decode cX6_whoCanDo 1 = .ok (.istore_n 3, 1) := by decide +kernel
theorem dX6_whoCanDo_2 : decode cX6_whoCanDo 2 = .ok (.iconst 0, 1) := by decide +kernel
theorem dX6_whoCanDo_3 : decode cX6_whoCanDo 3 = .ok (.istore 4, 2) := by decide +kernel
theorem dX6_whoCanDo_5 : decode cX6_whoCanDo 5 = .ok (.iload 4, 2) := by decide +kernel
theorem dX6_whoCanDo_7 : decode cX6_whoCanDo 7 = .ok (.aload_n 0, 1) := by decide +kernel
theorem dX6_whoCanDo_8 : decode cX6_whoCanDo 8 = .ok (.getfield 55, 3) := by decide +kernel
theorem dX6_whoCanDo_11 : decode cX6_whoCanDo 11 = .ok (.getfield 205, 3) := by decide +kernel
theorem dX6_whoCanDo_14 : decode cX6_whoCanDo 14 = .ok (.if_icmp .ge 55, 3) := by decide +kernel
theorem dX6_whoCanDo_17 : decode cX6_whoCanDo 17 = .ok (.aload_n 0, 1) := by decide +kernel
theorem dX6_whoCanDo_18 : decode cX6_whoCanDo 18 = .ok (.getfield 19, 3) := by decide +kernel
theorem dX6_whoCanDo_21 : decode cX6_whoCanDo 21 = .ok (.getfield 116, 3) := by decide +kernel
theorem dX6_whoCanDo_24 : decode cX6_whoCanDo 24 = .ok (.iload 4, 2) := by decide +kernel
theorem dX6_whoCanDo_26 : decode cX6_whoCanDo 26 = .ok (.invokestatic 112, 3) := by decide +kernel
theorem dX6_whoCanDo_29 : decode cX6_whoCanDo 29 = .ok (.ifCond .eq 34, 3) := by decide +kernel
theorem dX6_whoCanDo_32 : decode cX6_whoCanDo 32 = .ok (.aload_n 0, 1) := by decide +kernel
theorem dX6_whoCanDo_33 : decode cX6_whoCanDo 33 = .ok (.getfield 55, 3) := by decide +kernel
theorem dX6_whoCanDo_36 : decode cX6_whoCanDo 36 = .ok (.iload_n 1, 1) := by decide +kernel
theorem dX6_whoCanDo_37 : decode cX6_whoCanDo 37 = .ok (.aload_n 0, 1) := by decide +kernel
theorem dX6_whoCanDo_38 : decode cX6_whoCanDo 38 = .ok (.getfield 19, 3) := by decide +kernel
theorem dX6_whoCanDo_41 : decode cX6_whoCanDo 41 = .ok (.getfield 119, 3) := by decide +kernel
theorem dX6_whoCanDo_44 : decode cX6_whoCanDo 44 = .ok (.iload 4, 2) := by decide +kernel
theorem dX6_whoCanDo_46 : decode cX6_whoCanDo 46 = .ok (.iaload, 1) := by decide +kernel
theorem dX6_whoCanDo_47 : decode cX6_whoCanDo 47 = .ok (.iload_n 2, 1) := by decide +kernel
theorem dX6_whoCanDo_48 : decode cX6_whoCanDo 48 = .ok (.iadd, 1) := by decide +kernel
theorem dX6_whoCanDo_49 : decode cX6_whoCanDo 49 = .ok (.invokevirtual 269, 3) := by decide +kernel
theorem dX6_whoCanDo_52 : decode cX6_whoCanDo 52 = .ok (.ifCond .eq 11, 3) := by decide +kernel
theorem dX6_whoCanDo_55 : decode cX6_whoCanDo 55 = .ok (.iload_n 3, 1) := by decide +kernel
theorem dX6_whoCanDo_56 : decode cX6_whoCanDo 56 = .ok (.iload 4, 2) := by decide +kernel
theorem dX6_whoCanDo_58 : decode cX6_whoCanDo 58 = .ok (.invokestatic 170, 3) := by decide +kernel
theorem dX6_whoCanDo_61 : decode cX6_whoCanDo 61 = .ok (.ior, 1) := by decide +kernel
theorem dX6_whoCanDo_62 : decode cX6_whoCanDo 62 = .ok (.istore_n 3, 1) := by decide +kernel
theorem dX6_whoCanDo_63 : decode cX6_whoCanDo 63 = .ok (.iinc 4 1, 3) := by decide +kernel
theorem dX6_whoCanDo_66 : decode cX6_whoCanDo 66 = .ok (.goto (-61), 3) := by decide +kernel
theorem dX6_whoCanDo_69 : decode cX6_whoCanDo 69 = .ok (.iload_n 3, 1) := by decide +kernel
theorem dX6_whoCanDo_70 : decode cX6_whoCanDo 70 = .ok (.ireturn, 1) := by decide +kernel
set_option maxRecDepth 20000 in
theorem ggX6_yearsUntilNobody_X6_whoCanDo : GoodIn wsX6_yearsUntilNobody wsX6_whoCanDo := goodIn_r _ [5, 6, 7, 8, 9, 4, 10, 11, 12, 13, 14, 15, 16, 17, 18, 19, 20, 21, 22, 23, 24, 25, 26, 27, 28, 29, 30, 31, 32, 33, 34, 35, 36, 37, 38, 39, 40, 41, 42, 43, 44, 45, 46, 47, 48] (by decide +kernel) (by decide +kernel)
set_option maxRecDepth 20000 in
theorem gX6_yearsUntilNobody_X6_whoCanDo : GoodIn wsX6_yearsUntilNobody (wsV RX6 134 RX6 yX6_whoCanDo wsX6_whoCanDo) := goodIn_app (goodIn_of _ (by decide +kernel)) ggX6_yearsUntilNobody_X6_whoCanDo
theorem dX6_yearsUntilNobody_0 : decode cX6_yearsUntilNobody 0 = .ok (.iconst 0, 1) := by decide +kernel
theorem dX6_yearsUntilNobody_1 : decode cX6_yearsUntilNobody 1 = .ok (.istore_n 2, 1) := by decide +kernel
theorem dX6_yearsUntilNobody_2 : decode cX6_yearsUntilNobody 2 = .ok (.iload_n 2, 1) := by decide +kernel
theorem dX6_yearsUntilNobody_3 : decode cX6_yearsUntilNobody 3 = .ok (.bipush 60, 2) := by decide +kernel
theorem dX6_yearsUntilNobody_5 : decode cX6_yearsUntilNobody 5 = .ok (.if_icmp .gt 20, 3) := by decide +kernel
theorem dX6_yearsUntilNobody_8 : decode cX6_yearsUntilNobody 8 = .ok (.aload_n 0, 1) := by decide +kernel
theorem dX6_yearsUntilNobody_9 : decode cX6_yearsUntilNobody 9 = .ok (.iload_n 1, 1) := by decide +kernel
theorem dX6_yearsUntilNobody_10 : decode cX6_yearsUntilNobody 10 = .ok (.iload_n 2, 1) := by decide +kernel
theorem dX6_yearsUntilNobody_11 : decode cX6_yearsUntilNobody 11 = .ok (.invokevirtual 134, 3) := by decide +kernel
theorem dX6_yearsUntilNobody_14 : decode cX6_yearsUntilNobody 14 = .ok (.ifCond .ne 5, 3) := by decide +kernel
theorem dX6_yearsUntilNobody_17 : decode cX6_yearsUntilNobody 17 = .ok (.iload_n 2, 1) := by decide +kernel
theorem dX6_yearsUntilNobody_18 : decode cX6_yearsUntilNobody 18 = .ok (.ireturn, 1) := by decide +kernel
theorem dX6_yearsUntilNobody_19 : decode cX6_yearsUntilNobody 19 = .ok (.iinc 2 1, 3) := by decide +kernel
theorem dX6_yearsUntilNobody_22 : decode cX6_yearsUntilNobody 22 = .ok (.goto (-20), 3) := by decide +kernel
theorem dX6_yearsUntilNobody_25 : decode cX6_yearsUntilNobody 25 = .ok (.bipush (-9), 2) := by decide +kernel
theorem dX6_yearsUntilNobody_27 : decode cX6_yearsUntilNobody 27 = .ok (.ireturn, 1) := by decide +kernel
set_option maxRecDepth 20000 in
theorem ggX6_tellFilling_X6_worksOfChild : GoodIn wsX6_tellFilling wsX6_worksOfChild := goodIn_r _ [7, 8, 2, 9, 10, 6, 11, 12, 13, 14, 15, 16, 17, 18, 19, 20, 21, 22, 23, 24, 25, 26, 27, 28, 29, 30, 31, 32, 33, 34, 35, 36, 37, 38, 39, 40, 53, 54, 55, 56, 57, 58, 41, 42, 43, 44, 45, 46, 47, 48] (by decide +kernel) (by decide +kernel)
set_option maxRecDepth 20000 in
theorem gX6_tellFilling_X6_worksOfChild : GoodIn wsX6_tellFilling (wsV RX6 122 RX6 yX6_worksOfChild wsX6_worksOfChild) := goodIn_app (goodIn_of _ (by decide +kernel)) ggX6_tellFilling_X6_worksOfChild
theorem dX6_tellFilling_0 : decode cX6_tellFilling 0 = .ok (.aload_n 0, 1) := by decide +kernel
theorem dX6_tellFilling_1 : decode cX6_tellFilling 1 = .ok (.getfield 41, 3) := by decide +kernel
theorem dX6_tellFilling_4 : decode cX6_tellFilling 4 = .ok (.aload_n 0, 1) := by decide +kernel
theorem dX6_tellFilling_5 : decode cX6_tellFilling 5 = .ok (.getfield 55, 3) := by decide +kernel
theorem dX6_tellFilling_8 : decode cX6_tellFilling 8 = .ok (.getfield 205, 3) := by decide +kernel
theorem dX6_tellFilling_11 : decode cX6_tellFilling 11 = .ok (.putfield 272, 3) := by decide +kernel
theorem dX6_tellFilling_14 : decode cX6_tellFilling 14 = .ok (.aload_n 0, 1) := by decide +kernel
theorem dX6_tellFilling_15 : decode cX6_tellFilling 15 = .ok (.getfield 41, 3) := by decide +kernel
theorem dX6_tellFilling_18 : decode cX6_tellFilling 18 = .ok (.aload_n 0, 1) := by decide +kernel
theorem dX6_tellFilling_19 : decode cX6_tellFilling 19 = .ok (.getfield 55, 3) := by decide +kernel
theorem dX6_tellFilling_22 : decode cX6_tellFilling 22 = .ok (.getfield 233, 3) := by decide +kernel
theorem dX6_tellFilling_25 : decode cX6_tellFilling 25 = .ok (.putfield 275, 3) := by decide +kernel
theorem dX6_tellFilling_28 : decode cX6_tellFilling 28 = .ok (.iconst 0, 1) := by decide +kernel
theorem dX6_tellFilling_29 : decode cX6_tellFilling 29 = .ok (.istore_n 1, 1) := by decide +kernel
theorem dX6_tellFilling_30 : decode cX6_tellFilling 30 = .ok (.iload_n 1, 1) := by decide +kernel
theorem dX6_tellFilling_31 : decode cX6_tellFilling 31 = .ok (.aload_n 0, 1) := by decide +kernel
theorem dX6_tellFilling_32 : decode cX6_tellFilling 32 = .ok (.getfield 55, 3) := by decide +kernel
theorem dX6_tellFilling_35 : decode cX6_tellFilling 35 = .ok (.getfield 205, 3) := by decide +kernel
theorem dX6_tellFilling_38 : decode cX6_tellFilling 38 = .ok (.if_icmp .ge 23, 3) := by decide +kernel
theorem dX6_tellFilling_41 : decode cX6_tellFilling 41 = .ok (.aload_n 0, 1) := by decide +kernel
theorem dX6_tellFilling_42 : decode cX6_tellFilling 42 = .ok (.getfield 41, 3) := by decide +kernel
theorem dX6_tellFilling_45 : decode cX6_tellFilling 45 = .ok (.getfield 188, 3) := by decide +kernel
theorem dX6_tellFilling_48 : decode cX6_tellFilling 48 = .ok (.iload_n 1, 1) := by decide +kernel
theorem dX6_tellFilling_49 : decode cX6_tellFilling 49 = .ok (.aload_n 0, 1) := by decide +kernel
theorem dX6_tellFilling_50 : decode cX6_tellFilling 50 = .ok (.iload_n 1, 1) := by decide +kernel
theorem dX6_tellFilling_51 : decode cX6_tellFilling 51 = .ok (.invokevirtual 122, 3) := by decide +kernel
theorem dX6_tellFilling_54 : decode cX6_tellFilling 54 = .ok (.iastore, 1) := by decide +kernel
theorem dX6_tellFilling_55 : decode cX6_tellFilling 55 = .ok (.iinc 1 1, 3) := by decide +kernel
theorem dX6_tellFilling_58 : decode cX6_tellFilling 58 = .ok (.goto (-28), 3) := by decide +kernel
theorem dX6_tellFilling_61 : decode cX6_tellFilling 61 = .ok (.return_, 1) := by decide +kernel
set_option maxRecDepth 20000 in
theorem ggX6_mostFilled_X6_tellFilling : GoodIn wsX6_mostFilled wsX6_tellFilling := goodIn_r _ [6, 1, 7, 8, 9, 10, 5, 11, 12, 13, 14, 15, 16, 17, 18, 19, 20, 21, 22, 23, 24, 25, 26, 27, 28, 29, 30, 31, 32, 33, 34, 55, 56, 57, 58, 59, 60, 61, 62, 63, 64, 65, 66, 67, 68, 69, 70, 71, 72, 73, 74, 75, 76, 77, 78, 79, 80, 81, 82] (by decide +kernel) (by decide +kernel)
set_option maxRecDepth 20000 in
theorem gX6_mostFilled_X6_tellFilling : GoodIn wsX6_mostFilled (wsV RX6 182 RX6 yX6_tellFilling wsX6_tellFilling) := goodIn_app (goodIn_of _ (by decide +kernel)) ggX6_mostFilled_X6_tellFilling
set_option maxRecDepth 20000 in
theorem ggX6_mostFilled_X0_solve : GoodIn wsX6_mostFilled wsX0_solve := goodIn_r _ [38, 39, 40, 41, 17, 5, 18, 42, 43, 44, 36, 45, 46, 47, 48, 49, 50, 51, 52, 53, 54, 14, 15, 16, 73, 74, 75, 76] (by decide +kernel) (by decide +kernel)
set_option maxRecDepth 20000 in
theorem gX6_mostFilled_X0_solve_n194 : GoodIn wsX6_mostFilled (wsX0_solve) := ggX6_mostFilled_X0_solve
theorem dX6_mostFilled_0 : decode cX6_mostFilled 0 = .ok (.aload_n 0, 1) := by decide +kernel
theorem dX6_mostFilled_1 : decode cX6_mostFilled 1 = .ok (.invokevirtual 182, 3) := by decide +kernel
theorem dX6_mostFilled_4 : decode cX6_mostFilled 4 = .ok (.aload_n 0, 1) := by decide +kernel
theorem dX6_mostFilled_5 : decode cX6_mostFilled 5 = .ok (.getfield 41, 3) := by decide +kernel
theorem dX6_mostFilled_8 : decode cX6_mostFilled 8 = .ok (.invokevirtual 194, 3) := by decide +kernel
theorem dX6_mostFilled_11 : decode cX6_mostFilled 11 = .ok (.ireturn, 1) := by decide +kernel
set_option maxRecDepth 20000 in
theorem ggX6_roomsToDo_X1_ageOfRoom : GoodIn wsX6_roomsToDo wsX1_ageOfRoom := goodIn_r _ [6, 7, 8, 9, 10, 4, 11, 12, 13, 14, 15, 16, 17, 18, 48, 49, 50, 51, 52, 53] (by decide +kernel) (by decide +kernel)
set_option maxRecDepth 20000 in
theorem gX6_roomsToDo_X1_ageOfRoom_n99 : GoodIn wsX6_roomsToDo (wsX1_ageOfRoom) := ggX6_roomsToDo_X1_ageOfRoom
set_option maxRecDepth 20000 in
theorem ggX6_roomsToDo_X5_does : GoodIn wsX6_roomsToDo wsX5_does := goodIn_r _ [22, 23, 24, 25, 26, 20, 27, 28, 29, 40, 41, 42, 43, 44, 45, 46, 47] (by decide +kernel) (by decide +kernel)
set_option maxRecDepth 20000 in
theorem gX6_roomsToDo_X5_does_n269 : GoodIn wsX6_roomsToDo (wsX5_does) := ggX6_roomsToDo_X5_does
theorem dX6_roomsToDo_0 : decode cX6_roomsToDo 0 = .ok (.iconst 0, 1) := by decide +kernel
theorem dX6_roomsToDo_1 : decode cX6_roomsToDo 1 = .ok (.istore_n 2, 1) := by decide +kernel
theorem dX6_roomsToDo_2 : decode cX6_roomsToDo 2 = .ok (.iconst 0, 1) := by decide +kernel
theorem dX6_roomsToDo_3 : decode cX6_roomsToDo 3 = .ok (.istore_n 3, 1) := by decide +kernel
theorem dX6_roomsToDo_4 : decode cX6_roomsToDo 4 = .ok (.iload_n 3, 1) := by decide +kernel
theorem dX6_roomsToDo_5 : decode cX6_roomsToDo 5 = .ok (.aload_n 0, 1) := by decide +kernel
theorem dX6_roomsToDo_6 : decode cX6_roomsToDo 6 = .ok (.getfield 55, 3) := by decide +kernel
theorem dX6_roomsToDo_9 : decode cX6_roomsToDo 9 = .ok (.getfield 185, 3) := by decide +kernel
theorem dX6_roomsToDo_12 : decode cX6_roomsToDo 12 = .ok (.if_icmp .ge 31, 3) := by decide +kernel
theorem dX6_roomsToDo_15 : decode cX6_roomsToDo 15 = .ok (.aload_n 0, 1) := by decide +kernel
theorem dX6_roomsToDo_16 : decode cX6_roomsToDo 16 = .ok (.getfield 55, 3) := by decide +kernel
theorem dX6_roomsToDo_19 : decode cX6_roomsToDo 19 = .ok (.iload_n 1, 1) := by decide +kernel
theorem dX6_roomsToDo_20 : decode cX6_roomsToDo 20 = .ok (.aload_n 0, 1) := by decide +kernel
theorem dX6_roomsToDo_21 : decode cX6_roomsToDo 21 = .ok (.getfield 19, 3) := by decide +kernel
theorem dX6_roomsToDo_24 : decode cX6_roomsToDo 24 = .ok (.iload_n 3, 1) := by decide +kernel
theorem dX6_roomsToDo_25 : decode cX6_roomsToDo 25 = .ok (.invokevirtual 99, 3) := by decide +kernel
theorem dX6_roomsToDo_28 : decode cX6_roomsToDo 28 = .ok (.invokevirtual 269, 3) := by decide +kernel
theorem dX6_roomsToDo_31 : decode cX6_roomsToDo 31 = .ok (.ifCond .eq 6, 3) := by decide +kernel
theorem dX6_roomsToDo_34 : decode cX6_roomsToDo 34 = .ok (.iinc 2 1, 3) := by decide +kernel
theorem dX6_roomsToDo_37 : decode cX6_roomsToDo 37 = .ok (.iinc 3 1, 3) := by decide +kernel
theorem dX6_roomsToDo_40 : decode cX6_roomsToDo 40 = .ok (.goto (-36), 3) := by decide +kernel
theorem dX6_roomsToDo_43 : decode cX6_roomsToDo 43 = .ok (.iload_n 2, 1) := by decide +kernel
theorem dX6_roomsToDo_44 : decode cX6_roomsToDo 44 = .ok (.ireturn, 1) := by decide +kernel
theorem dX6_power_0 : decode cX6_power 0 = .ok (.iconst 1, 1) := by decide +kernel
theorem dX6_power_1 : decode cX6_power 1 = .ok (.istore_n 2, 1) := by decide +kernel
theorem dX6_power_2 : decode cX6_power 2 = .ok (.iconst 0, 1) := by decide +kernel
theorem dX6_power_3 : decode cX6_power 3 = .ok (.istore_n 3, 1) := by decide +kernel
theorem dX6_power_4 : decode cX6_power 4 = .ok (.iload_n 3, 1) := by decide +kernel
theorem dX6_power_5 : decode cX6_power 5 = .ok (.iload_n 1, 1) := by decide +kernel
theorem dX6_power_6 : decode cX6_power 6 = .ok (.if_icmp .ge 13, 3) := by decide +kernel
theorem dX6_power_9 : decode cX6_power 9 = .ok (.iload_n 2, 1) := by decide +kernel
theorem dX6_power_10 : decode cX6_power 10 = .ok (.iload_n 0, 1) := by decide +kernel
theorem dX6_power_11 : decode cX6_power 11 = .ok (.imul, 1) := by decide +kernel
theorem dX6_power_12 : decode cX6_power 12 = .ok (.istore_n 2, 1) := by decide +kernel
theorem dX6_power_13 : decode cX6_power 13 = .ok (.iinc 3 1, 3) := by decide +kernel
theorem dX6_power_16 : decode cX6_power 16 = .ok (.goto (-12), 3) := by decide +kernel
theorem dX6_power_19 : decode cX6_power 19 = .ok (.iload_n 2, 1) := by decide +kernel
theorem dX6_power_20 : decode cX6_power 20 = .ok (.ireturn, 1) := by decide +kernel
theorem dX6_greatestDivisor_0 : decode cX6_greatestDivisor 0 = .ok (.iload_n 0, 1) := by decide +kernel
theorem dX6_greatestDivisor_1 : decode cX6_greatestDivisor 1 = .ok (.istore_n 2, 1) := by decide +kernel
theorem dX6_greatestDivisor_2 : decode cX6_greatestDivisor 2 = .ok (.iload_n 1, 1) := by decide +kernel
theorem dX6_greatestDivisor_3 : decode cX6_greatestDivisor 3 = .ok (.istore_n 3, 1) := by decide +kernel
theorem dX6_greatestDivisor_4 : decode cX6_greatestDivisor 4 = .ok (.iconst 0, 1) := by decide +kernel
theorem dX6_greatestDivisor_5 : decode cX6_greatestDivisor 5 = .ok (.istore 4, 2) := by decide +kernel
theorem dX6_greatestDivisor_7 : decode cX6_greatestDivisor 7 = .ok (.iload 4, 2) := by decide +kernel
theorem dX6_greatestDivisor_9 : decode cX6_greatestDivisor 9 = .ok (.bipush 40, 2) := by decide +kernel
theorem dX6_greatestDivisor_11 : decode cX6_greatestDivisor 11 = .ok (.if_icmp .ge 23, 3) := by decide +kernel
theorem dX6_greatestDivisor_14 : decode cX6_greatestDivisor 14 = .ok (.iload_n 3, 1) := by decide +kernel
theorem dX6_greatestDivisor_15 : decode cX6_greatestDivisor 15 = .ok (.ifCond .eq 19, 3) := by decide +kernel
theorem dX6_greatestDivisor_18 : decode cX6_greatestDivisor 18 = .ok (.iload_n 2, 1) := by decide +kernel
theorem dX6_greatestDivisor_19 : decode cX6_greatestDivisor 19 = .ok (.iload_n 3, 1) := by decide +kernel
theorem dX6_greatestDivisor_20 : decode cX6_greatestDivisor 20 = .ok (.irem, 1) := by decide +kernel
theorem dX6_greatestDivisor_21 : decode cX6_greatestDivisor 21 = .ok (.istore 5, 2) := by decide +kernel
theorem dX6_greatestDivisor_23 : decode cX6_greatestDivisor 23 = .ok (.iload_n 3, 1) := by decide +kernel
theorem dX6_greatestDivisor_24 : decode cX6_greatestDivisor 24 = .ok (.istore_n 2, 1) := by decide +kernel
theorem dX6_greatestDivisor_25 : decode cX6_greatestDivisor 25 = .ok (.iload 5, 2) := by decide +kernel
theorem dX6_greatestDivisor_27 : decode cX6_greatestDivisor 27 = .ok (.istore_n 3, 1) := by decide +kernel
theorem dX6_greatestDivisor_28 : decode cX6_greatestDivisor 28 = .ok (.iinc 4 1, 3) := by decide +kernel
theorem dX6_greatestDivisor_31 : decode cX6_greatestDivisor 31 = .ok (.goto (-24), 3) := by decide +kernel
theorem dX6_greatestDivisor_34 : decode cX6_greatestDivisor 34 = .ok (.iload_n 2, 1) := by decide +kernel
theorem dX6_greatestDivisor_35 : decode cX6_greatestDivisor 35 = .ok (.ireturn, 1) := by decide +kernel
set_option maxRecDepth 20000 in
theorem ggX6_possibleAges_X3_allows : GoodIn wsX6_possibleAges wsX3_allows := goodIn_r _ [6, 7, 8, 9, 10, 11, 12, 13, 14, 15, 26, 27, 28, 29, 30, 31, 32, 33, 34, 35, 36] (by decide +kernel) (by decide +kernel)
set_option maxRecDepth 20000 in
theorem gX6_possibleAges_X3_allows_n276 : GoodIn wsX6_possibleAges (wsX3_allows) := ggX6_possibleAges_X3_allows
theorem dX6_possibleAges_0 : decode cX6_possibleAges 0 = .ok (.iconst 0, 1) := by decide +kernel
theorem dX6_possibleAges_1 : decode cX6_possibleAges 1 = .ok (.istore_n 1, 1) := by decide +kernel
theorem dX6_possibleAges_2 : decode cX6_possibleAges 2 = .ok (.iconst 0, 1) := by decide +kernel
theorem dX6_possibleAges_3 : decode cX6_possibleAges 3 = .ok (.istore_n 2, 1) := by decide +kernel
theorem dX6_possibleAges_4 : decode cX6_possibleAges 4 = .ok (.iload_n 2, 1) := by decide +kernel
theorem dX6_possibleAges_5 : decode cX6_possibleAges 5 = .ok (.bipush 99, 2) := by decide +kernel
theorem dX6_possibleAges_7 : decode cX6_possibleAges 7 = .ok (.if_icmp .gt 27, 3) := by decide +kernel
theorem dX6_possibleAges_10 : decode cX6_possibleAges 10 = .ok (.aload_n 0, 1) := by decide +kernel
theorem dX6_possibleAges_11 : decode cX6_possibleAges 11 = .ok (.getfield 48, 3) := by decide +kernel
theorem dX6_possibleAges_14 : decode cX6_possibleAges 14 = .ok (.aload_n 0, 1) := by decide +kernel
theorem dX6_possibleAges_15 : decode cX6_possibleAges 15 = .ok (.getfield 55, 3) := by decide +kernel
theorem dX6_possibleAges_18 : decode cX6_possibleAges 18 = .ok (.iload_n 2, 1) := by decide +kernel
theorem dX6_possibleAges_19 : decode cX6_possibleAges 19 = .ok (.invokevirtual 276, 3) := by decide +kernel
theorem dX6_possibleAges_22 : decode cX6_possibleAges 22 = .ok (.ifCond .eq 6, 3) := by decide +kernel
theorem dX6_possibleAges_25 : decode cX6_possibleAges 25 = .ok (.iinc 1 1, 3) := by decide +kernel
theorem dX6_possibleAges_28 : decode cX6_possibleAges 28 = .ok (.iinc 2 1, 3) := by decide +kernel
theorem dX6_possibleAges_31 : decode cX6_possibleAges 31 = .ok (.goto (-27), 3) := by decide +kernel
theorem dX6_possibleAges_34 : decode cX6_possibleAges 34 = .ok (.iload_n 1, 1) := by decide +kernel
theorem dX6_possibleAges_35 : decode cX6_possibleAges 35 = .ok (.ireturn, 1) := by decide +kernel
set_option maxRecDepth 20000 in
theorem ggX6_possibleAgesAtWork_X5_spans : GoodIn wsX6_possibleAgesAtWork wsX5_spans := goodIn_r _ [6, 7, 8, 26, 27, 28, 29, 30, 31, 32, 33] (by decide +kernel) (by decide +kernel)
set_option maxRecDepth 20000 in
theorem gX6_possibleAgesAtWork_X5_spans_n280 : GoodIn wsX6_possibleAgesAtWork (wsX5_spans) := ggX6_possibleAgesAtWork_X5_spans
set_option maxRecDepth 20000 in
theorem ggX6_possibleAgesAtWork_X3_allows : GoodIn wsX6_possibleAgesAtWork wsX3_allows := goodIn_r _ [12, 13, 14, 15, 3, 4, 5, 6, 7, 8, 34, 35, 36, 26, 27, 28, 29, 30, 31, 32, 33] (by decide +kernel) (by decide +kernel)
set_option maxRecDepth 20000 in
theorem gX6_possibleAgesAtWork_X3_allows_n276 : GoodIn wsX6_possibleAgesAtWork (wsX3_allows) := ggX6_possibleAgesAtWork_X3_allows
theorem dX6_possibleAgesAtWork_0 : decode cX6_possibleAgesAtWork 0 = .ok (.iconst 0, 1) := by decide +kernel
theorem dX6_possibleAgesAtWork_1 : decode cX6_possibleAgesAtWork 1 = .ok (.istore_n 2, 1) := by decide +kernel
theorem dX6_possibleAgesAtWork_2 : decode cX6_possibleAgesAtWork 2 = .ok (.iconst 0, 1) := by decide +kernel
theorem dX6_possibleAgesAtWork_3 : decode cX6_possibleAgesAtWork 3 = .ok (.istore_n 3, 1) := by decide +kernel
theorem dX6_possibleAgesAtWork_4 : decode cX6_possibleAgesAtWork 4 = .ok (.iload_n 3, 1) := by decide +kernel
theorem dX6_possibleAgesAtWork_5 : decode cX6_possibleAgesAtWork 5 = .ok (.bipush 99, 2) := by decide +kernel
theorem dX6_possibleAgesAtWork_7 : decode cX6_possibleAgesAtWork 7 = .ok (.if_icmp .gt 39, 3) := by decide +kernel
theorem dX6_possibleAgesAtWork_10 : decode cX6_possibleAgesAtWork 10 = .ok (.aload_n 0, 1) := by decide +kernel
theorem dX6_possibleAgesAtWork_11 : decode cX6_possibleAgesAtWork 11 = .ok (.getfield 55, 3) := by decide +kernel
theorem dX6_possibleAgesAtWork_14 : decode cX6_possibleAgesAtWork 14 = .ok (.iload_n 1, 1) := by decide +kernel
theorem dX6_possibleAgesAtWork_15 : decode cX6_possibleAgesAtWork 15 = .ok (.iload_n 3, 1) := by decide +kernel
theorem dX6_possibleAgesAtWork_16 : decode cX6_possibleAgesAtWork 16 = .ok (.invokevirtual 280, 3) := by decide +kernel
theorem dX6_possibleAgesAtWork_19 : decode cX6_possibleAgesAtWork 19 = .ok (.ifCond .eq 21, 3) := by decide +kernel
theorem dX6_possibleAgesAtWork_22 : decode cX6_possibleAgesAtWork 22 = .ok (.aload_n 0, 1) := by decide +kernel
theorem dX6_possibleAgesAtWork_23 : decode cX6_possibleAgesAtWork 23 = .ok (.getfield 48, 3) := by decide +kernel
theorem dX6_possibleAgesAtWork_26 : decode cX6_possibleAgesAtWork 26 = .ok (.aload_n 0, 1) := by decide +kernel
theorem dX6_possibleAgesAtWork_27 : decode cX6_possibleAgesAtWork 27 = .ok (.getfield 55, 3) := by decide +kernel
theorem dX6_possibleAgesAtWork_30 : decode cX6_possibleAgesAtWork 30 = .ok (.iload_n 3, 1) := by decide +kernel
theorem dX6_possibleAgesAtWork_31 : decode cX6_possibleAgesAtWork 31 = .ok (.invokevirtual 276, 3) := by decide +kernel
theorem dX6_possibleAgesAtWork_34 : decode cX6_possibleAgesAtWork 34 = .ok (.ifCond .eq 6, 3) := by decide +kernel
theorem dX6_possibleAgesAtWork_37 : decode cX6_possibleAgesAtWork 37 = .ok (.iinc 2 1, 3) := by decide +kernel
theorem dX6_possibleAgesAtWork_40 : decode cX6_possibleAgesAtWork 40 = .ok (.iinc 3 1, 3) := by decide +kernel
theorem dX6_possibleAgesAtWork_43 : decode cX6_possibleAgesAtWork 43 = .ok (.goto (-39), 3) := by decide +kernel
theorem dX6_possibleAgesAtWork_46 : decode cX6_possibleAgesAtWork 46 = .ok (.iload_n 2, 1) := by decide +kernel
theorem dX6_possibleAgesAtWork_47 : decode cX6_possibleAgesAtWork 47 = .ok (.ireturn, 1) := by decide +kernel
set_option maxRecDepth 20000 in
theorem ggX6_leastAge_X3_allows : GoodIn wsX6_leastAge wsX3_allows := goodIn_r _ [6, 7, 8, 9, 10, 11, 12, 13, 14, 15, 26, 27, 28, 29, 30, 31, 32, 33, 34, 35, 36] (by decide +kernel) (by decide +kernel)
set_option maxRecDepth 20000 in
theorem gX6_leastAge_X3_allows_n276 : GoodIn wsX6_leastAge (wsX3_allows) := ggX6_leastAge_X3_allows
theorem dX6_leastAge_0 : decode cX6_leastAge 0 = .ok (.iconst 0, 1) := by decide +kernel
theorem dX6_leastAge_1 : decode cX6_leastAge 1 = .ok (.istore_n 1, 1) := by decide +kernel
theorem dX6_leastAge_2 : decode cX6_leastAge 2 = .ok (.iload_n 1, 1) := by decide +kernel
theorem dX6_leastAge_3 : decode cX6_leastAge 3 = .ok (.bipush 99, 2) := by decide +kernel
theorem dX6_leastAge_5 : decode cX6_leastAge 5 = .ok (.if_icmp .gt 26, 3) := by decide +kernel
theorem dX6_leastAge_8 : decode cX6_leastAge 8 = .ok (.aload_n 0, 1) := by decide +kernel
theorem dX6_leastAge_9 : decode cX6_leastAge 9 = .ok (.getfield 48, 3) := by decide +kernel
theorem dX6_leastAge_12 : decode cX6_leastAge 12 = .ok (.aload_n 0, 1) := by decide +kernel
theorem dX6_leastAge_13 : decode cX6_leastAge 13 = .ok (.getfield 55, 3) := by decide +kernel
theorem dX6_leastAge_16 : decode cX6_leastAge 16 = .ok (.iload_n 1, 1) := by decide +kernel
theorem dX6_leastAge_17 : decode cX6_leastAge 17 = .ok (.invokevirtual 276, 3) := by decide +kernel
theorem dX6_leastAge_20 : decode cX6_leastAge 20 = .ok (.ifCond .eq 5, 3) := by decide +kernel
theorem dX6_leastAge_23 : decode cX6_leastAge 23 = .ok (.iload_n 1, 1) := by decide +kernel
theorem dX6_leastAge_24 : decode cX6_leastAge 24 = .ok (.ireturn, 1) := by decide +kernel
theorem dX6_leastAge_25 : decode cX6_leastAge 25 = .ok (.iinc 1 1, 3) := by decide +kernel
theorem dX6_leastAge_28 : decode cX6_leastAge 28 = .ok (.goto (-26), 3) := by decide +kernel
theorem dX6_leastAge_31 : decode cX6_leastAge 31 = .ok (.bipush (-9), 2) := by decide +kernel
theorem dX6_leastAge_33 : decode cX6_leastAge 33 = .ok (.ireturn, 1) := by decide +kernel
set_option maxRecDepth 20000 in
theorem ggX6_greatestAge_X3_allows : GoodIn wsX6_greatestAge wsX3_allows := goodIn_r _ [6, 7, 8, 9, 10, 11, 12, 13, 14, 15, 26, 27, 28, 29, 30, 31, 32, 33, 34, 35, 36] (by decide +kernel) (by decide +kernel)
set_option maxRecDepth 20000 in
theorem gX6_greatestAge_X3_allows_n276 : GoodIn wsX6_greatestAge (wsX3_allows) := ggX6_greatestAge_X3_allows
theorem dX6_greatestAge_0 : decode cX6_greatestAge 0 = .ok (.bipush 99, 2) := by decide +kernel
theorem dX6_greatestAge_2 : decode cX6_greatestAge 2 = .ok (.istore_n 1, 1) := by decide +kernel
theorem dX6_greatestAge_3 : decode cX6_greatestAge 3 = .ok (.iload_n 1, 1) := by decide +kernel
theorem dX6_greatestAge_4 : decode cX6_greatestAge 4 = .ok (.ifCond .lt 26, 3) := by decide +kernel
theorem dX6_greatestAge_7 : decode cX6_greatestAge 7 = .ok (.aload_n 0, 1) := by decide +kernel
theorem dX6_greatestAge_8 : decode cX6_greatestAge 8 = .ok (.getfield 48, 3) := by decide +kernel
theorem dX6_greatestAge_11 : decode cX6_greatestAge 11 = .ok (.aload_n 0, 1) := by decide +kernel
theorem dX6_greatestAge_12 : decode cX6_greatestAge 12 = .ok (.getfield 55, 3) := by decide +kernel
theorem dX6_greatestAge_15 : decode cX6_greatestAge 15 = .ok (.iload_n 1, 1) := by decide +kernel
theorem dX6_greatestAge_16 : decode cX6_greatestAge 16 = .ok (.invokevirtual 276, 3) := by decide +kernel
theorem dX6_greatestAge_19 : decode cX6_greatestAge 19 = .ok (.ifCond .eq 5, 3) := by decide +kernel
theorem dX6_greatestAge_22 : decode cX6_greatestAge 22 = .ok (.iload_n 1, 1) := by decide +kernel
theorem dX6_greatestAge_23 : decode cX6_greatestAge 23 = .ok (.ireturn, 1) := by decide +kernel
theorem dX6_greatestAge_24 : decode cX6_greatestAge 24 = .ok (.iinc 1 (-1), 3) := by decide +kernel
theorem dX6_greatestAge_27 : decode cX6_greatestAge 27 = .ok (.goto (-24), 3) := by decide +kernel
theorem dX6_greatestAge_30 : decode cX6_greatestAge 30 = .ok (.bipush (-9), 2) := by decide +kernel
theorem dX6_greatestAge_32 : decode cX6_greatestAge 32 = .ok (.ireturn, 1) := by decide +kernel
set_option maxRecDepth 20000 in
theorem ggX6_rateChild_X6_has : GoodIn wsX6_rateChild wsX6_has := goodIn_r _ [6, 7, 8, 5, 9] (by decide +kernel) (by decide +kernel)
set_option maxRecDepth 20000 in
theorem gX6_rateChild_X6_has : GoodIn wsX6_rateChild (va_wsS RX6 112 yX6_has wsX6_has) := goodIn_app (goodIn_of _ (by decide +kernel)) ggX6_rateChild_X6_has
theorem dX6_rateChild_0 : decode cX6_rateChild 0 = .ok (.aload_n 0, 1) := by decide +kernel
theorem dX6_rateChild_1 : decode cX6_rateChild 1 = .ok (.dup, 1) := by decide +kernel
theorem dX6_rateChild_2 : decode cX6_rateChild 2 = .ok (.getfield 62, 3) := by decide +kernel
theorem dX6_rateChild_5 : decode cX6_rateChild 5 = .ok (.lconst 1, 1) := by decide +kernel
theorem dX6_rateChild_6 : decode cX6_rateChild 6 = .ok (.ladd, 1) := by decide +kernel
theorem dX6_rateChild_7 : decode cX6_rateChild 7 = .ok (.putfield 62, 3) := by decide +kernel
theorem dX6_rateChild_10 : decode cX6_rateChild 10 = .ok (.aload_n 0, 1) := by decide +kernel
theorem dX6_rateChild_11 : decode cX6_rateChild 11 = .ok (.getfield 19, 3) := by decide +kernel
theorem dX6_rateChild_14 : decode cX6_rateChild 14 = .ok (.getfield 116, 3) := by decide +kernel
theorem dX6_rateChild_17 : decode cX6_rateChild 17 = .ok (.iload_n 1, 1) := by decide +kernel
theorem dX6_rateChild_18 : decode cX6_rateChild 18 = .ok (.invokestatic 112, 3) := by decide +kernel
theorem dX6_rateChild_21 : decode cX6_rateChild 21 = .ok (.ifCond .eq 15, 3) := by decide +kernel
theorem dX6_rateChild_24 : decode cX6_rateChild 24 = .ok (.aload_n 0, 1) := by decide +kernel
theorem dX6_rateChild_25 : decode cX6_rateChild 25 = .ok (.getfield 19, 3) := by decide +kernel
theorem dX6_rateChild_28 : decode cX6_rateChild 28 = .ok (.getfield 119, 3) := by decide +kernel
theorem dX6_rateChild_31 : decode cX6_rateChild 31 = .ok (.iload_n 1, 1) := by decide +kernel
theorem dX6_rateChild_32 : decode cX6_rateChild 32 = .ok (.iaload, 1) := by decide +kernel
theorem dX6_rateChild_33 : decode cX6_rateChild 33 = .ok (.goto 4, 3) := by decide +kernel
theorem dX6_rateChild_36 : decode cX6_rateChild 36 = .ok (.iconst 0, 1) := by decide +kernel
theorem dX6_rateChild_37 : decode cX6_rateChild 37 = .ok (.ireturn, 1) := by decide +kernel
set_option maxRecDepth 20000 in
theorem ggX6_rateAttic_X6_rateChild : GoodIn wsX6_rateAttic wsX6_rateChild := goodIn_r _ [8, 1, 3, 9, 10, 7, 11, 12, 13, 14, 15, 16, 17, 18, 19, 20, 21, 22, 23, 24, 25, 26, 27, 28, 29, 30] (by decide +kernel) (by decide +kernel)
set_option maxRecDepth 20000 in
theorem gX6_rateAttic_X6_rateChild : GoodIn wsX6_rateAttic (wsV RX6 260 RX6 yX6_rateChild wsX6_rateChild) := goodIn_app (goodIn_of _ (by decide +kernel)) ggX6_rateAttic_X6_rateChild
theorem dX6_rateAttic_0 : decode cX6_rateAttic 0 = .ok (.aload_n 0, 1) := by decide +kernel
theorem dX6_rateAttic_1 : decode cX6_rateAttic 1 = .ok (.dup, 1) := by decide +kernel
theorem dX6_rateAttic_2 : decode cX6_rateAttic 2 = .ok (.getfield 62, 3) := by decide +kernel
theorem dX6_rateAttic_5 : decode cX6_rateAttic 5 = .ok (.ldc2_w 283, 3) := by decide +kernel
theorem dX6_rateAttic_8 : decode cX6_rateAttic 8 = .ok (.ladd, 1) := by decide +kernel
theorem dX6_rateAttic_9 : decode cX6_rateAttic 9 = .ok (.putfield 62, 3) := by decide +kernel
theorem dX6_rateAttic_12 : decode cX6_rateAttic 12 = .ok (.aload_n 0, 1) := by decide +kernel
theorem dX6_rateAttic_13 : decode cX6_rateAttic 13 = .ok (.iload_n 1, 1) := by decide +kernel
theorem dX6_rateAttic_14 : decode cX6_rateAttic 14 = .ok (.invokevirtual 260, 3) := by decide +kernel
theorem dX6_rateAttic_17 : decode cX6_rateAttic 17 = .ok (.aload_n 0, 1) := by decide +kernel
theorem dX6_rateAttic_18 : decode cX6_rateAttic 18 = .ok (.getfield 19, 3) := by decide +kernel
theorem dX6_rateAttic_21 : decode cX6_rateAttic 21 = .ok (.getfield 141, 3) := by decide +kernel
theorem dX6_rateAttic_24 : decode cX6_rateAttic 24 = .ok (.iadd, 1) := by decide +kernel
theorem dX6_rateAttic_25 : decode cX6_rateAttic 25 = .ok (.ireturn, 1) := by decide +kernel
set_option maxRecDepth 20000 in
theorem ggX6_rateCellar_X6_rateChild : GoodIn wsX6_rateCellar wsX6_rateChild := goodIn_r _ [7, 1, 8, 9, 10, 6, 11, 12, 13, 14, 43, 44, 45, 46, 47, 48, 49, 50, 51, 52, 53, 54, 55, 56, 57, 58] (by decide +kernel) (by decide +kernel)
set_option maxRecDepth 20000 in
theorem gX6_rateCellar_X6_rateChild : GoodIn wsX6_rateCellar (wsV RX6 260 RX6 yX6_rateChild wsX6_rateChild) := goodIn_app (goodIn_of _ (by decide +kernel)) ggX6_rateCellar_X6_rateChild
set_option maxRecDepth 20000 in
theorem ggX6_rateCellar_X6_worksOfChild : GoodIn wsX6_rateCellar wsX6_worksOfChild := goodIn_r _ [18, 8, 19, 9, 10, 6, 11, 12, 13, 14, 20, 21, 22, 23, 24, 25, 26, 27, 28, 29, 30, 31, 32, 33, 34, 35, 43, 44, 45, 46, 47, 48, 49, 50, 51, 52, 53, 54, 55, 56, 57, 58, 59, 60, 61, 62, 63, 64, 65, 66] (by decide +kernel) (by decide +kernel)
set_option maxRecDepth 20000 in
theorem gX6_rateCellar_X6_worksOfChild : GoodIn wsX6_rateCellar (wsV RX6 122 RX6 yX6_worksOfChild wsX6_worksOfChild) := goodIn_app (goodIn_of _ (by decide +kernel)) ggX6_rateCellar_X6_worksOfChild
set_option maxRecDepth 20000 in
theorem ggX6_rateCellar_J6_bitCount_0f7a4 : GoodIn wsX6_rateCellar wsJ6_bitCount_0f7a4 := goodIn_r _ [39, 40, 41, 42] (by decide +kernel) (by decide +kernel)
set_option maxRecDepth 20000 in
theorem gX6_rateCellar_J6_bitCount_0f7a4 : GoodIn wsX6_rateCellar (va_wsS RX6 197 yJ6_bitCount_0f7a4 wsJ6_bitCount_0f7a4) := goodIn_app (goodIn_of _ (by decide +kernel)) ggX6_rateCellar_J6_bitCount_0f7a4
theorem dX6_rateCellar_0 : decode cX6_rateCellar 0 = .ok (.aload_n 0, 1) := by decide +kernel
theorem dX6_rateCellar_1 : decode cX6_rateCellar 1 = .ok (.dup, 1) := by decide +kernel
theorem dX6_rateCellar_2 : decode cX6_rateCellar 2 = .ok (.getfield 62, 3) := by decide +kernel
theorem dX6_rateCellar_5 : decode cX6_rateCellar 5 = .ok (.ldc2_w 285, 3) := by decide +kernel
theorem dX6_rateCellar_8 : decode cX6_rateCellar 8 = .ok (.ladd, 1) := by decide +kernel
theorem dX6_rateCellar_9 : decode cX6_rateCellar 9 = .ok (.putfield 62, 3) := by decide +kernel
theorem dX6_rateCellar_12 : decode cX6_rateCellar 12 = .ok (.aload_n 0, 1) := by decide +kernel
theorem dX6_rateCellar_13 : decode cX6_rateCellar 13 = .ok (.iload_n 1, 1) := by decide +kernel
theorem dX6_rateCellar_14 : decode cX6_rateCellar 14 = .ok (.invokevirtual 260, 3) := by decide +kernel
theorem dX6_rateCellar_17 : decode cX6_rateCellar 17 = .ok (.aload_n 0, 1) := by decide +kernel
theorem dX6_rateCellar_18 : decode cX6_rateCellar 18 = .ok (.iload_n 1, 1) := by decide +kernel
theorem dX6_rateCellar_19 : decode cX6_rateCellar 19 = .ok (.invokevirtual 122, 3) := by decide +kernel
theorem dX6_rateCellar_22 : decode cX6_rateCellar 22 = .ok (.invokestatic 197, 3) := by decide +kernel
theorem dX6_rateCellar_25 : decode cX6_rateCellar 25 = .ok (.isub, 1) := by decide +kernel
theorem dX6_rateCellar_26 : decode cX6_rateCellar 26 = .ok (.ireturn, 1) := by decide +kernel
set_option maxRecDepth 20000 in
theorem ggX6_rateGable_X6_rateAttic : GoodIn wsX6_rateGable wsX6_rateAttic := goodIn_r _ [7, 1, 8, 9, 10, 11, 12, 6, 13, 14, 15, 16, 17, 18, 19, 20, 21, 22, 23, 24, 25, 26, 27, 28, 29, 30, 31, 32, 33, 34, 35] (by decide +kernel) (by decide +kernel)
set_option maxRecDepth 20000 in
theorem gX6_rateGable_X6_rateAttic : GoodIn wsX6_rateGable (wsV RX6 245 RX6 yX6_rateAttic wsX6_rateAttic) := goodIn_app (goodIn_of _ (by decide +kernel)) ggX6_rateGable_X6_rateAttic
theorem dX6_rateGable_0 : decode cX6_rateGable 0 = .ok (.aload_n 0, 1) := by decide +kernel
theorem dX6_rateGable_1 : decode cX6_rateGable 1 = .ok (.dup, 1) := by decide +kernel
theorem dX6_rateGable_2 : decode cX6_rateGable 2 = .ok (.getfield 62, 3) := by decide +kernel
theorem dX6_rateGable_5 : decode cX6_rateGable 5 = .ok (.ldc2_w 287, 3) := by decide +kernel
theorem dX6_rateGable_8 : decode cX6_rateGable 8 = .ok (.ladd, 1) := by decide +kernel
theorem dX6_rateGable_9 : decode cX6_rateGable 9 = .ok (.putfield 62, 3) := by decide +kernel
theorem dX6_rateGable_12 : decode cX6_rateGable 12 = .ok (.iconst 2, 1) := by decide +kernel
theorem dX6_rateGable_13 : decode cX6_rateGable 13 = .ok (.aload_n 0, 1) := by decide +kernel
theorem dX6_rateGable_14 : decode cX6_rateGable 14 = .ok (.iload_n 1, 1) := by decide +kernel
theorem dX6_rateGable_15 : decode cX6_rateGable 15 = .ok (.invokevirtual 245, 3) := by decide +kernel
theorem dX6_rateGable_18 : decode cX6_rateGable 18 = .ok (.imul, 1) := by decide +kernel
theorem dX6_rateGable_19 : decode cX6_rateGable 19 = .ok (.ireturn, 1) := by decide +kernel
set_option maxRecDepth 20000 in
theorem ggX6_rateCrypt_X6_rateCellar : GoodIn wsX6_rateCrypt wsX6_rateCellar := goodIn_r _ [7, 1, 8, 9, 10, 11, 6, 12, 13, 14, 15, 16, 17, 18, 19, 20, 21, 22, 23, 24, 25, 26, 27, 28, 29, 30, 31, 32, 33, 34, 35, 36, 37, 38, 39, 40, 41, 42, 43, 44, 45, 46, 47, 48, 49, 50, 51, 52, 53, 54, 55, 56, 57, 58, 59, 60, 61, 62, 63, 64, 65, 66, 67, 68, 69, 70, 71] (by decide +kernel) (by decide +kernel)
set_option maxRecDepth 20000 in
theorem gX6_rateCrypt_X6_rateCellar : GoodIn wsX6_rateCrypt (wsV RX6 248 RX6 yX6_rateCellar wsX6_rateCellar) := goodIn_app (goodIn_of _ (by decide +kernel)) ggX6_rateCrypt_X6_rateCellar
theorem dX6_rateCrypt_0 : decode cX6_rateCrypt 0 = .ok (.aload_n 0, 1) := by decide +kernel
theorem dX6_rateCrypt_1 : decode cX6_rateCrypt 1 = .ok (.dup, 1) := by decide +kernel
theorem dX6_rateCrypt_2 : decode cX6_rateCrypt 2 = .ok (.getfield 62, 3) := by decide +kernel
theorem dX6_rateCrypt_5 : decode cX6_rateCrypt 5 = .ok (.ldc2_w 289, 3) := by decide +kernel
theorem dX6_rateCrypt_8 : decode cX6_rateCrypt 8 = .ok (.ladd, 1) := by decide +kernel
theorem dX6_rateCrypt_9 : decode cX6_rateCrypt 9 = .ok (.putfield 62, 3) := by decide +kernel
theorem dX6_rateCrypt_12 : decode cX6_rateCrypt 12 = .ok (.aload_n 0, 1) := by decide +kernel
theorem dX6_rateCrypt_13 : decode cX6_rateCrypt 13 = .ok (.iload_n 1, 1) := by decide +kernel
theorem dX6_rateCrypt_14 : decode cX6_rateCrypt 14 = .ok (.invokevirtual 248, 3) := by decide +kernel
theorem dX6_rateCrypt_17 : decode cX6_rateCrypt 17 = .ok (.iload_n 1, 1) := by decide +kernel
theorem dX6_rateCrypt_18 : decode cX6_rateCrypt 18 = .ok (.iadd, 1) := by decide +kernel
theorem dX6_rateCrypt_19 : decode cX6_rateCrypt 19 = .ok (.ireturn, 1) := by decide +kernel
set_option maxRecDepth 20000 in
theorem ggX6_rateCart_X6_rateChild : GoodIn wsX6_rateCart wsX6_rateChild := goodIn_r _ [8, 1, 3, 9, 10, 7, 11, 12, 13, 14, 22, 23, 24, 25, 26, 27, 28, 29, 30, 31, 32, 33, 34, 35, 36, 37] (by decide +kernel) (by decide +kernel)
set_option maxRecDepth 20000 in
theorem gX6_rateCart_X6_rateChild : GoodIn wsX6_rateCart (wsV RX6 260 RX6 yX6_rateChild wsX6_rateChild) := goodIn_app (goodIn_of _ (by decide +kernel)) ggX6_rateCart_X6_rateChild
set_option maxRecDepth 20000 in
theorem ggX6_rateCart_J6_bitCount_0f7a4 : GoodIn wsX6_rateCart wsJ6_bitCount_0f7a4 := goodIn_r _ [18, 19, 20, 21] (by decide +kernel) (by decide +kernel)
set_option maxRecDepth 20000 in
theorem gX6_rateCart_J6_bitCount_0f7a4 : GoodIn wsX6_rateCart (va_wsS RX6 197 yJ6_bitCount_0f7a4 wsJ6_bitCount_0f7a4) := goodIn_app (goodIn_of _ (by decide +kernel)) ggX6_rateCart_J6_bitCount_0f7a4
theorem dX6_rateCart_0 : decode cX6_rateCart 0 = .ok (.aload_n 0, 1) := by decide +kernel
theorem dX6_rateCart_1 : decode cX6_rateCart 1 = .ok (.dup, 1) := by decide +kernel
theorem dX6_rateCart_2 : decode cX6_rateCart 2 = .ok (.getfield 62, 3) := by decide +kernel
theorem dX6_rateCart_5 : decode cX6_rateCart 5 = .ok (.ldc2_w 291, 3) := by decide +kernel
theorem dX6_rateCart_8 : decode cX6_rateCart 8 = .ok (.ladd, 1) := by decide +kernel
theorem dX6_rateCart_9 : decode cX6_rateCart 9 = .ok (.putfield 62, 3) := by decide +kernel
theorem dX6_rateCart_12 : decode cX6_rateCart 12 = .ok (.aload_n 0, 1) := by decide +kernel
theorem dX6_rateCart_13 : decode cX6_rateCart 13 = .ok (.iload_n 1, 1) := by decide +kernel
theorem dX6_rateCart_14 : decode cX6_rateCart 14 = .ok (.invokevirtual 260, 3) := by decide +kernel
theorem dX6_rateCart_17 : decode cX6_rateCart 17 = .ok (.aload_n 0, 1) := by decide +kernel
theorem dX6_rateCart_18 : decode cX6_rateCart 18 = .ok (.getfield 19, 3) := by decide +kernel
theorem dX6_rateCart_21 : decode cX6_rateCart 21 = .ok (.getfield 116, 3) := by decide +kernel
theorem dX6_rateCart_24 : decode cX6_rateCart 24 = .ok (.invokestatic 197, 3) := by decide +kernel
theorem dX6_rateCart_27 : decode cX6_rateCart 27 = .ok (.iadd, 1) := by decide +kernel
theorem dX6_rateCart_28 : decode cX6_rateCart 28 = .ok (.ireturn, 1) := by decide +kernel
set_option maxRecDepth 20000 in
theorem ggX7_init_X7_begins : GoodIn wsX7_init wsX7_begins := goodIn_r _ [24, 25, 6, 33, 34, 35, 36, 37, 38, 39, 40, 41, 42, 43, 44, 45, 46, 47, 48, 49, 50, 51, 52, 53, 54, 55, 56, 57] (by decide +kernel) (by decide +kernel)
set_option maxRecDepth 20000 in
theorem gX7_init_X7_begins : GoodIn wsX7_init (wsV RX7 53 RX7 yX7_begins wsX7_begins) := goodIn_app (goodIn_of _ (by decide +kernel)) ggX7_init_X7_begins
set_option maxRecDepth 20000 in
theorem ggX7_init_X7_settles : GoodIn wsX7_init wsX7_settles := goodIn_r _ [29, 6, 8, 9, 10, 7, 30, 31, 32, 13, 33, 34, 35, 36, 37, 38, 39, 40, 41, 42, 43, 44, 45, 46, 47, 48, 49, 50, 51, 52, 53, 54, 55, 56, 57] (by decide +kernel) (by decide +kernel)
set_option maxRecDepth 20000 in
theorem gX7_init_X7_settles : GoodIn wsX7_init (wsV RX7 56 RX7 yX7_settles wsX7_settles) := goodIn_app (goodIn_of _ (by decide +kernel)) ggX7_init_X7_settles
theorem dX7_init_0 : decode cX7_init 0 = .ok (.aload_n 0, 1) := by decide +kernel
theorem dX7_init_1 : decode cX7_init 1 = .ok (.invokespecial 1, 3) := by decide +kernel
theorem dX7_init_4 : decode cX7_init 4 = .ok (.aload_n 0, 1) := by decide +kernel
theorem dX7_init_5 : decode cX7_init 5 = .ok (.bipush 120, 2) := by decide +kernel
theorem dX7_init_7 : decode cX7_init 7 = .ok (.newarray .int, 2) := by decide +kernel
theorem dX7_init_9 : decode cX7_init 9 = .ok (.putfield 7, 3) := by decide +kernel
theorem dX7_init_12 : decode cX7_init 12 = .ok (.aload_n 0, 1) := by decide +kernel
theorem dX7_init_13 : decode cX7_init 13 = .ok (.bipush 8, 2) := by decide +kernel
theorem dX7_init_15 : decode cX7_init 15 = .ok (.newarray .int, 2) := by decide +kernel
theorem dX7_init_17 : decode cX7_init 17 = .ok (.putfield 13, 3) := by decide +kernel
theorem dX7_init_20 : decode cX7_init 20 = .ok (.aload_n 0, 1) := by decide +kernel
theorem dX7_init_21 : decode cX7_init 21 = .ok (.bipush 6, 2) := by decide +kernel
theorem dX7_init_23 : decode cX7_init 23 = .ok (.newarray .int, 2) := by decide +kernel
theorem dX7_init_25 : decode cX7_init 25 = .ok (.putfield 16, 3) := by decide +kernel
theorem dX7_init_28 : decode cX7_init 28 = .ok (.aload_n 0, 1) := by decide +kernel
theorem dX7_init_29 : decode cX7_init 29 = .ok (.bipush 10, 2) := by decide +kernel
theorem dX7_init_31 : decode cX7_init 31 = .ok (.newarray .int, 2) := by decide +kernel
theorem dX7_init_33 : decode cX7_init 33 = .ok (.putfield 19, 3) := by decide +kernel
theorem dX7_init_36 : decode cX7_init 36 = .ok (.aload_n 0, 1) := by decide +kernel
theorem dX7_init_37 : decode cX7_init 37 = .ok (.bipush 10, 2) := by decide +kernel
theorem dX7_init_39 : decode cX7_init 39 = .ok (.newarray .int, 2) := by decide +kernel
theorem dX7_init_41 : decode cX7_init 41 = .ok (.putfield 22, 3) := by decide +kernel
theorem dX7_init_44 : decode cX7_init 44 = .ok (.aload_n 0, 1) := by decide +kernel
theorem dX7_init_45 : decode cX7_init 45 = .ok (.bipush 21, 2) := by decide +kernel
theorem dX7_init_47 : decode cX7_init 47 = .ok (.newarray .int, 2) := by decide +kernel
theorem dX7_init_49 : decode cX7_init 49 = .ok (.putfield 25, 3) := by decide +kernel
theorem dX7_init_52 : decode cX7_init 52 = .ok (.aload_n 0, 1) := by decide +kernel
theorem dX7_init_53 : decode cX7_init 53 = .ok (.bipush 42, 2) := by decide +kernel
theorem dX7_init_55 : decode cX7_init 55 = .ok (.newarray .int, 2) := by decide +kernel
theorem dX7_init_57 : decode cX7_init 57 = .ok (.putfield 28, 3) := by decide +kernel
theorem dX7_init_60 : decode cX7_init 60 = .ok (.aload_n 0, 1) := by decide +kernel
theorem dX7_init_61 : decode cX7_init 61 = .ok (.iconst 2, 1) := by decide +kernel
theorem dX7_init_62 : decode cX7_init 62 = .ok (.newarray .boolean, 2) := by decide +kernel
theorem dX7_init_64 : decode cX7_init 64 = .ok (.putfield 31, 3) := by decide +kernel
theorem dX7_init_67 : decode cX7_init 67 = .ok (.aload_n 0, 1) := by decide +kernel
theorem dX7_init_68 : decode cX7_init 68 = .ok (.sipush 210, 3) := by decide +kernel
theorem dX7_init_71 : decode cX7_init 71 = .ok (.newarray .int, 2) := by decide +kernel
theorem dX7_init_73 : decode cX7_init 73 = .ok (.putfield 35, 3) := by decide +kernel
theorem dX7_init_76 : decode cX7_init 76 = .ok (.aload_n 0, 1) := by decide +kernel
theorem dX7_init_77 : decode cX7_init 77 = .ok (.bipush 6, 2) := by decide +kernel
theorem dX7_init_79 : decode cX7_init 79 = .ok (.newarray .int, 2) := by decide +kernel
theorem dX7_init_81 : decode cX7_init 81 = .ok (.putfield 38, 3) := by decide +kernel
theorem dX7_init_84 : decode cX7_init 84 = .ok (.aload_n 0, 1) := by decide +kernel
theorem dX7_init_85 : decode cX7_init 85 = .ok (.bipush 6, 2) := by decide +kernel
theorem dX7_init_87 : decode cX7_init 87 = .ok (.newarray .int, 2) := by decide +kernel
theorem dX7_init_89 : decode cX7_init 89 = .ok (.putfield 41, 3) := by decide +kernel
theorem dX7_init_92 : decode cX7_init 92 = .ok (.aload_n 0, 1) := by decide +kernel
theorem dX7_init_93 : decode cX7_init 93 = .ok (.bipush 6, 2) := by decide +kernel
theorem dX7_init_95 : decode cX7_init 95 = .ok (.newarray .int, 2) := by decide +kernel
theorem dX7_init_97 : decode cX7_init 97 = .ok (.putfield 44, 3) := by decide +kernel
theorem dX7_init_100 : decode cX7_init 100 = .ok (.aload_n 0, 1) := by decide +kernel
theorem dX7_init_101 : decode cX7_init 101 = .ok (.bipush 6, 2) := by decide +kernel
theorem dX7_init_103 : decode cX7_init 103 = .ok (.newarray .int, 2) := by decide +kernel
theorem dX7_init_105 : decode cX7_init 105 = .ok (.putfield 47, 3) := by decide +kernel
theorem dX7_init_108 : decode cX7_init 108 = .ok (.aload_n 0, 1) := by decide +kernel
theorem dX7_init_109 : decode cX7_init 109 = .ok (.bipush 6, 2) := by decide +kernel
theorem dX7_init_111 : decode cX7_init 111 = .ok (.newarray .int, 2) := by decide +kernel
theorem dX7_init_113 : decode cX7_init 113 = .ok (.putfield 50, 3) := by decide +kernel
theorem dX7_init_116 : decode cX7_init 116 = .ok (.aload_n 0, 1) := by decide +kernel
theorem dX7_init_117 : decode cX7_init 117 = .ok (.invokevirtual 53, 3) := by decide +kernel
theorem dX7_init_120 : decode cX7_init 120 = .ok (.aload_n 0, 1) := by decide +kernel
theorem dX7_init_121 : decode cX7_init 121 = .ok (.invokevirtual 56, 3) := by decide +kernel
theorem dX7_init_124 : decode cX7_init 124 = .ok (.return_, 1) := by decide +kernel
theorem dX7_in_0 : decode cX7_in 0 = .ok (.iload_n 0, 1) := by decide +kernel
theorem dX7_in_1 : decode cX7_in 1 = .ok (.iload_n 1, 1) := by decide +kernel
theorem dX7_in_2 : decode cX7_in 2 = .ok (.if_icmp .lt 12, 3) := by decide +kernel
theorem dX7_in_5 : decode cX7_in 5 = .ok (.iload_n 0, 1) := by decide +kernel
theorem dX7_in_6 : decode cX7_in 6 = .ok (.iload_n 2, 1) := by decide +kernel
theorem dX7_in_7 : decode cX7_in 7 = .ok (.if_icmp .gt 7, 3) := by decide +kernel
theorem dX7_in_10 : decode cX7_in 10 = .ok (.iconst 1, 1) := by decide +kernel
theorem dX7_in_11 : decode cX7_in 11 = .ok (.goto 4, 3) := by decide +kernel
theorem dX7_in_14 : decode cX7_in 14 = .ok (.iconst 0, 1) := by decide +kernel
theorem dX7_in_15 : decode cX7_in 15 = .ok (.ireturn, 1) := by decide +kernel
theorem dX7_has_0 : decode cX7_has 0 = .ok (.iload_n 0, 1) := by decide +kernel
theorem dX7_has_1 : decode cX7_has 1 = .ok (.iload_n 1, 1) := by decide +kernel
theorem dX7_has_2 : decode cX7_has 2 = .ok (.ishr, 1) := by decide +kernel
theorem dX7_has_3 : decode cX7_has 3 = .ok (.iconst 1, 1) := by decide +kernel
theorem dX7_has_4 : decode cX7_has 4 = .ok (.iand, 1) := by decide +kernel
theorem dX7_has_5 : decode cX7_has 5 = .ok (.iconst 1, 1) := by decide +kernel
theorem dX7_has_6 : decode cX7_has 6 = .ok (.if_icmp .ne 7, 3) := by decide +kernel
theorem dX7_has_9 : decode cX7_has 9 = .ok (.iconst 1, 1) := by decide +kernel
theorem dX7_has_10 : decode cX7_has 10 = .ok (.goto 4, 3) := by decide +kernel
theorem dX7_has_13 : decode cX7_has 13 = .ok (.iconst 0, 1) := by decide +kernel
theorem dX7_has_14 : decode cX7_has 14 = .ok (.ireturn, 1) := by decide +kernel
theorem dX7_ones_0 : decode cX7_ones 0 = .ok (.iconst 0, 1) := by decide +kernel
theorem dX7_ones_1 : decode cX7_ones 1 = .ok (.istore_n 1, 1) := by decide +kernel
theorem dX7_ones_2 : decode cX7_ones 2 = .ok (.iconst 0, 1) := by decide +kernel
theorem dX7_ones_3 : decode cX7_ones 3 = .ok (.istore_n 2, 1) := by decide +kernel
theorem dX7_ones_4 : decode cX7_ones 4 = .ok (.iload_n 2, 1) := by decide +kernel
theorem dX7_ones_5 : decode cX7_ones 5 = .ok (.bipush 6, 2) := by decide +kernel
theorem dX7_ones_7 : decode cX7_ones 7 = .ok (.if_icmp .ge 17, 3) := by decide +kernel
theorem dX7_ones_10 : decode cX7_ones 10 = .ok (.iload_n 1, 1) := by decide +kernel
theorem dX7_ones_11 : decode cX7_ones 11 = .ok (.iload_n 0, 1) := by decide +kernel
theorem dX7_ones_12 : decode cX7_ones 12 = .ok (.iload_n 2, 1) := by decide +kernel
theorem dX7_ones_13 : decode cX7_ones 13 = .ok (.ishr, 1) := by decide +kernel
theorem dX7_ones_14 : decode cX7_ones 14 = .ok (.iconst 1, 1) := by decide +kernel
theorem dX7_ones_15 : decode cX7_ones 15 = .ok (.iand, 1) := by decide +kernel
theorem dX7_ones_16 : decode cX7_ones 16 = .ok (.iadd, 1) := by decide +kernel
theorem dX7_ones_17 : decode cX7_ones 17 = .ok (.istore_n 1, 1) := by decide +kernel
theorem dX7_ones_18 : decode cX7_ones 18 = .ok (.iinc 2 1, 3) := by decide +kernel
theorem dX7_ones_21 : decode cX7_ones 21 = .ok (.goto (-17), 3) := by decide +kernel
theorem dX7_ones_24 : decode cX7_ones 24 = .ok (.iload_n 1, 1) := by decide +kernel
theorem dX7_ones_25 : decode cX7_ones 25 = .ok (.ireturn, 1) := by decide +kernel
set_option maxRecDepth 20000 in
theorem ggX7_type_X7_in : GoodIn wsX7_type wsX7_in := goodIn_r _ [7] (by decide +kernel) (by decide +kernel)
set_option maxRecDepth 20000 in
theorem gX7_type_X7_in : GoodIn wsX7_type (va_wsS RX7 63 yX7_in wsX7_in) := goodIn_app (goodIn_of _ (by decide +kernel)) ggX7_type_X7_in
theorem dX7_type_0 : decode cX7_type 0 = .ok (.aload_n 0, 1) := by decide +kernel
theorem dX7_type_1 : decode cX7_type 1 = .ok (.iconst 0, 1) := by decide +kernel
theorem dX7_type_2 : decode cX7_type 2 = .ok (.putfield 59, 3) := by decide +kernel
theorem dX7_type_5 : decode cX7_type 5 = .ok (.iload_n 1, 1) := by decide +kernel
theorem dX7_type_6 : decode cX7_type 6 = .ok (.iconst 0, 1) := by decide +kernel
theorem dX7_type_7 : decode cX7_type 7 = .ok (.sipush 255, 3) := by decide +kernel
theorem dX7_type_10 : decode cX7_type 10 = .ok (.invokestatic 63, 3) := by decide +kernel
theorem dX7_type_13 : decode cX7_type 13 = .ok (.ifCond .ne 5, 3) := by decide +kernel
theorem dX7_type_16 : decode cX7_type 16 = .ok (.iconst (-1), 1) := by decide +kernel
theorem dX7_type_17 : decode cX7_type 17 = .ok (.ireturn, 1) := by decide +kernel
theorem dX7_type_18 : decode cX7_type 18 = .ok (.aload_n 0, 1) := by decide +kernel
theorem dX7_type_19 : decode cX7_type 19 = .ok (.getfield 67, 3) := by decide +kernel
theorem dX7_type_22 : decode cX7_type 22 = .ok (.bipush 120, 2) := by decide +kernel
theorem dX7_type_24 : decode cX7_type 24 = .ok (.if_icmp .ne 6, 3) := by decide +kernel
theorem dX7_type_27 : decode cX7_type 27 = .ok (.bipush (-3), 2) := by decide +kernel
theorem dX7_type_29 : decode cX7_type 29 = .ok (.ireturn, 1) := by decide +kernel
theorem dX7_type_30 : decode cX7_type 30 = .ok (.aload_n 0, 1) := by decide +kernel
theorem dX7_type_31 : decode cX7_type 31 = .ok (.getfield 7, 3) := by decide +kernel
theorem dX7_type_34 : decode cX7_type 34 = .ok (.aload_n 0, 1) := by decide +kernel
theorem dX7_type_35 : decode cX7_type 35 = .ok (.getfield 67, 3) := by decide +kernel
theorem dX7_type_38 : decode cX7_type 38 = .ok (.iload_n 1, 1) := by decide +kernel
theorem dX7_type_39 : decode cX7_type 39 = .ok (.iastore, 1) := by decide +kernel
theorem dX7_type_40 : decode cX7_type 40 = .ok (.aload_n 0, 1) := by decide +kernel
theorem dX7_type_41 : decode cX7_type 41 = .ok (.dup, 1) := by decide +kernel
theorem dX7_type_42 : decode cX7_type 42 = .ok (.getfield 67, 3) := by decide +kernel
theorem dX7_type_45 : decode cX7_type 45 = .ok (.iconst 1, 1) := by decide +kernel
theorem dX7_type_46 : decode cX7_type 46 = .ok (.iadd, 1) := by decide +kernel
theorem dX7_type_47 : decode cX7_type 47 = .ok (.putfield 67, 3) := by decide +kernel
theorem dX7_type_50 : decode cX7_type 50 = .ok (.aload_n 0, 1) := by decide +kernel
theorem dX7_type_51 : decode cX7_type 51 = .ok (.getfield 67, 3) := by decide +kernel
theorem dX7_type_54 : decode cX7_type 54 = .ok (.ireturn, 1) := by decide +kernel
theorem dX7_clear_0 : decode cX7_clear 0 = .ok (.aload_n 0, 1) := by decide +kernel
theorem dX7_clear_1 : decode cX7_clear 1 = .ok (.iconst 0, 1) := by decide +kernel
theorem dX7_clear_2 : decode cX7_clear 2 = .ok (.putfield 59, 3) := by decide +kernel
theorem dX7_clear_5 : decode cX7_clear 5 = .ok (.aload_n 0, 1) := by decide +kernel
theorem dX7_clear_6 : decode cX7_clear 6 = .ok (.getfield 67, 3) := by decide +kernel
theorem dX7_clear_9 : decode cX7_clear 9 = .ok (.istore_n 1, 1) := by decide +kernel
theorem dX7_clear_10 : decode cX7_clear 10 = .ok (.aload_n 0, 1) := by decide +kernel
theorem dX7_clear_11 : decode cX7_clear 11 = .ok (.iconst 0, 1) := by decide +kernel
theorem dX7_clear_12 : decode cX7_clear 12 = .ok (.putfield 67, 3) := by decide +kernel
theorem dX7_clear_15 : decode cX7_clear 15 = .ok (.iload_n 1, 1) := by decide +kernel
theorem dX7_clear_16 : decode cX7_clear 16 = .ok (.ireturn, 1) := by decide +kernel
theorem dX7_letterAt_0 : decode cX7_letterAt 0 = .ok (.iload_n 1, 1) := by decide +kernel
theorem dX7_letterAt_1 : decode cX7_letterAt 1 = .ok (.aload_n 0, 1) := by decide +kernel
theorem dX7_letterAt_2 : decode cX7_letterAt 2 = .ok (.getfield 67, 3) := by decide +kernel
theorem dX7_letterAt_5 : decode cX7_letterAt 5 = .ok (.if_icmp .ge 12, 3) := by decide +kernel
theorem dX7_letterAt_8 : decode cX7_letterAt 8 = .ok (.aload_n 0, 1) := by decide +kernel
theorem dX7_letterAt_9 : decode cX7_letterAt 9 = .ok (.getfield 7, 3) := by decide +kernel
theorem dX7_letterAt_12 : decode cX7_letterAt 12 = .ok (.iload_n 1, 1) := by decide +kernel
theorem dX7_letterAt_13 : decode cX7_letterAt 13 = .ok (.iaload, 1) := by decide +kernel
theorem dX7_letterAt_14 : decode cX7_letterAt 14 = .ok (.goto 4, 3) := by decide +kernel
theorem dX7_letterAt_17 : decode cX7_letterAt 17 = .ok (.iconst (-1), 1) := by decide +kernel
theorem dX7_letterAt_18 : decode cX7_letterAt 18 = .ok (.ireturn, 1) := by decide +kernel
theorem dX7_isLetter_0 : decode cX7_isLetter 0 = .ok (.iload_n 0, 1) := by decide +kernel
theorem dX7_isLetter_1 : decode cX7_isLetter 1 = .ok (.bipush 97, 2) := by decide +kernel
theorem dX7_isLetter_3 : decode cX7_isLetter 3 = .ok (.if_icmp .eq 21, 3) := by decide +kernel
theorem dX7_isLetter_6 : decode cX7_isLetter 6 = .ok (.iload_n 0, 1) := by decide +kernel
theorem dX7_isLetter_7 : decode cX7_isLetter 7 = .ok (.bipush 119, 2) := by decide +kernel
theorem dX7_isLetter_9 : decode cX7_isLetter 9 = .ok (.if_icmp .eq 15, 3) := by decide +kernel
theorem dX7_isLetter_12 : decode cX7_isLetter 12 = .ok (.iload_n 0, 1) := by decide +kernel
theorem dX7_isLetter_13 : decode cX7_isLetter 13 = .ok (.bipush 109, 2) := by decide +kernel
theorem dX7_isLetter_15 : decode cX7_isLetter 15 = .ok (.if_icmp .eq 9, 3) := by decide +kernel
theorem dX7_isLetter_18 : decode cX7_isLetter 18 = .ok (.iload_n 0, 1) := by decide +kernel
theorem dX7_isLetter_19 : decode cX7_isLetter 19 = .ok (.bipush 108, 2) := by decide +kernel
theorem dX7_isLetter_21 : decode cX7_isLetter 21 = .ok (.if_icmp .ne 7, 3) := by decide +kernel
theorem dX7_isLetter_24 : decode cX7_isLetter 24 = .ok (.iconst 1, 1) := by decide +kernel
theorem dX7_isLetter_25 : decode cX7_isLetter 25 = .ok (.goto 4, 3) := by decide +kernel
theorem dX7_isLetter_28 : decode cX7_isLetter 28 = .ok (.iconst 0, 1) := by decide +kernel
theorem dX7_isLetter_29 : decode cX7_isLetter 29 = .ok (.ireturn, 1) := by decide +kernel
set_option maxRecDepth 20000 in
theorem ggX7_advances_X7_letterAt : GoodIn wsX7_advances wsX7_letterAt := goodIn_r _ [9, 10, 11, 18, 19, 20, 21, 22, 23, 24, 25, 26, 27, 28, 29, 30, 31, 32, 33, 34, 35, 36, 37, 38, 39, 40, 41, 42] (by decide +kernel) (by decide +kernel)
set_option maxRecDepth 20000 in
theorem gX7_advances_X7_letterAt : GoodIn wsX7_advances (wsV RX7 73 RX7 yX7_letterAt wsX7_letterAt) := goodIn_app (goodIn_of _ (by decide +kernel)) ggX7_advances_X7_letterAt
set_option maxRecDepth 20000 in
theorem ggX7_advances_X7_in : GoodIn wsX7_advances wsX7_in := goodIn_r _ [14] (by decide +kernel) (by decide +kernel)
set_option maxRecDepth 20000 in
theorem gX7_advances_X7_in : GoodIn wsX7_advances (va_wsS RX7 63 yX7_in wsX7_in) := goodIn_app (goodIn_of _ (by decide +kernel)) ggX7_advances_X7_in
set_option maxRecDepth 20000 in
theorem ggX7_advances_X7_isLetter : GoodIn wsX7_advances wsX7_isLetter := goodIn_r _ [17] (by decide +kernel) (by decide +kernel)
set_option maxRecDepth 20000 in
theorem gX7_advances_X7_isLetter : GoodIn wsX7_advances (va_wsS RX7 86 yX7_isLetter wsX7_isLetter) := goodIn_app (goodIn_of _ (by decide +kernel)) ggX7_advances_X7_isLetter
theorem dX7_advances_0 : decode cX7_advances 0 = .ok (.aload_n 0, 1) := by decide +kernel
theorem dX7_advances_1 : decode cX7_advances 1 = .ok (.aload_n 0, 1) := by decide +kernel
theorem dX7_advances_2 : decode cX7_advances 2 = .ok (.getfield 70, 3) := by decide +kernel
theorem dX7_advances_5 : decode cX7_advances 5 = .ok (.invokevirtual 73, 3) := by decide +kernel
theorem dX7_advances_8 : decode cX7_advances 8 = .ok (.bipush 32, 2) := by decide +kernel
theorem dX7_advances_10 : decode cX7_advances 10 = .ok (.if_icmp .ne 16, 3) := by decide +kernel
theorem dX7_advances_13 : decode cX7_advances 13 = .ok (.aload_n 0, 1) := by decide +kernel
theorem dX7_advances_14 : decode cX7_advances 14 = .ok (.dup, 1) := by decide +kernel
theorem dX7_advances_15 : decode cX7_advances 15 = .ok (.getfield 70, 3) := by decide +kernel
theorem dX7_advances_18 : decode cX7_advances 18 = .ok (.iconst 1, 1) := by decide +kernel
theorem dX7_advances_19 : decode cX7_advances 19 = .ok (.iadd, 1) := by decide +kernel
theorem dX7_advances_20 : decode cX7_advances 20 = .ok (.putfield 70, 3) := by decide +kernel
theorem dX7_advances_23 : decode cX7_advances 23 = .ok (.goto (-23), 3) := by decide +kernel
theorem dX7_advances_26 : decode cX7_advances 26 = .ok (.aload_n 0, 1) := by decide +kernel
theorem dX7_advances_27 : decode cX7_advances 27 = .ok (.aload_n 0, 1) := by decide +kernel
theorem dX7_advances_28 : decode cX7_advances 28 = .ok (.getfield 70, 3) := by decide +kernel
theorem dX7_advances_31 : decode cX7_advances 31 = .ok (.putfield 77, 3) := by decide +kernel
theorem dX7_advances_34 : decode cX7_advances 34 = .ok (.aload_n 0, 1) := by decide +kernel
theorem dX7_advances_35 : decode cX7_advances 35 = .ok (.aload_n 0, 1) := by decide +kernel
theorem dX7_advances_36 : decode cX7_advances 36 = .ok (.getfield 70, 3) := by decide +kernel
theorem dX7_advances_39 : decode cX7_advances 39 = .ok (.invokevirtual 73, 3) := by decide +kernel
theorem dX7_advances_42 : decode cX7_advances 42 = .ok (.istore_n 1, 1) := by decide +kernel
theorem dX7_advances_43 : decode cX7_advances 43 = .ok (.iload_n 1, 1) := by decide +kernel
theorem dX7_advances_44 : decode cX7_advances 44 = .ok (.ifCond .ge 11, 3) := by decide +kernel
theorem dX7_advances_47 : decode cX7_advances 47 = .ok (.aload_n 0, 1) := by decide +kernel
theorem dX7_advances_48 : decode cX7_advances 48 = .ok (.iconst 0, 1) := by decide +kernel
theorem dX7_advances_49 : decode cX7_advances 49 = .ok (.putfield 80, 3) := by decide +kernel
theorem dX7_advances_52 : decode cX7_advances 52 = .ok (.goto 170, 3) := by decide +kernel
theorem dX7_advances_55 : decode cX7_advances 55 = .ok (.iload_n 1, 1) := by decide +kernel
theorem dX7_advances_56 : decode cX7_advances 56 = .ok (.bipush 48, 2) := by decide +kernel
theorem dX7_advances_58 : decode cX7_advances 58 = .ok (.bipush 57, 2) := by decide +kernel
theorem dX7_advances_60 : decode cX7_advances 60 = .ok (.invokestatic 63, 3) := by decide +kernel
theorem dX7_advances_63 : decode cX7_advances 63 = .ok (.ifCond .eq 118, 3) := by decide +kernel
theorem dX7_advances_66 : decode cX7_advances 66 = .ok (.aload_n 0, 1) := by decide +kernel
theorem dX7_advances_67 : decode cX7_advances 67 = .ok (.iconst 0, 1) := by decide +kernel
theorem dX7_advances_68 : decode cX7_advances 68 = .ok (.putfield 83, 3) := by decide +kernel
theorem dX7_advances_71 : decode cX7_advances 71 = .ok (.aload_n 0, 1) := by decide +kernel
theorem dX7_advances_72 : decode cX7_advances 72 = .ok (.aload_n 0, 1) := by decide +kernel
theorem dX7_advances_73 : decode cX7_advances 73 = .ok (.getfield 70, 3) := by decide +kernel
theorem dX7_advances_76 : decode cX7_advances 76 = .ok (.invokevirtual 73, 3) := by decide +kernel
theorem dX7_advances_79 : decode cX7_advances 79 = .ok (.bipush 48, 2) := by decide +kernel
theorem dX7_advances_81 : decode cX7_advances 81 = .ok (.bipush 57, 2) := by decide +kernel
theorem dX7_advances_83 : decode cX7_advances 83 = .ok (.invokestatic 63, 3) := by decide +kernel
theorem dX7_advances_86 : decode cX7_advances 86 = .ok (.ifCond .eq 55, 3) := by decide +kernel
theorem dX7_advances_89 : decode cX7_advances 89 = .ok (.aload_n 0, 1) := by decide +kernel
theorem dX7_advances_90 : decode cX7_advances 90 = .ok (.aload_n 0, 1) := by decide +kernel
theorem dX7_advances_91 : decode cX7_advances 91 = .ok (.getfield 83, 3) := by decide +kernel
theorem dX7_advances_94 : decode cX7_advances 94 = .ok (.bipush 99, 2) := by decide +kernel
theorem dX7_advances_96 : decode cX7_advances 96 = .ok (.if_icmp .le 10, 3) := by decide +kernel
theorem dX7_advances_99 : decode cX7_advances 99 = .ok (.aload_n 0, 1) := by decide +kernel
theorem dX7_advances_100 : decode cX7_advances 100 = .ok (.getfield 83, 3) := by decide +kernel
theorem dX7_advances_103 : decode cX7_advances 103 = .ok (.goto 22, 3) := by decide +kernel
theorem dX7_advances_106 : decode cX7_advances 106 = .ok (.bipush 10, 2) := by decide +kernel
theorem dX7_advances_108 : decode cX7_advances 108 = .ok (.aload_n 0, 1) := by decide +kernel
theorem dX7_advances_109 : decode cX7_advances 109 = .ok (.getfield 83, 3) := by decide +kernel
theorem dX7_advances_112 : decode cX7_advances 112 = .ok (.imul, 1) := by decide +kernel
theorem dX7_advances_113 : decode cX7_advances 113 = .ok (.aload_n 0, 1) := by decide +kernel
theorem dX7_advances_114 : decode cX7_advances 114 = .ok (.aload_n 0, 1) := by decide +kernel
theorem dX7_advances_115 : decode cX7_advances 115 = .ok (.getfield 70, 3) := by decide +kernel
theorem dX7_advances_118 : decode cX7_advances 118 = .ok (.invokevirtual 73, 3) := by decide +kernel
theorem dX7_advances_121 : decode cX7_advances 121 = .ok (.iadd, 1) := by decide +kernel
theorem dX7_advances_122 : decode cX7_advances 122 = .ok (.bipush 48, 2) := by decide +kernel
theorem dX7_advances_124 : decode cX7_advances 124 = .ok (.isub, 1) := by decide +kernel
theorem dX7_advances_125 : decode cX7_advances 125 = .ok (.putfield 83, 3) := by decide +kernel
theorem dX7_advances_128 : decode cX7_advances 128 = .ok (.aload_n 0, 1) := by decide +kernel
theorem dX7_advances_129 : decode cX7_advances 129 = .ok (.dup, 1) := by decide +kernel
theorem dX7_advances_130 : decode cX7_advances 130 = .ok (.getfield 70, 3) := by decide +kernel
theorem dX7_advances_133 : decode cX7_advances 133 = .ok (.iconst 1, 1) := by decide +kernel
theorem dX7_advances_134 : decode cX7_advances 134 = .ok (.iadd, 1) := by decide +kernel
theorem dX7_advances_135 : decode cX7_advances 135 = .ok (.putfield 70, 3) := by decide +kernel
theorem dX7_advances_138 : decode cX7_advances 138 = .ok (.goto (-67), 3) := by decide +kernel
theorem dX7_advances_141 : decode cX7_advances 141 = .ok (.aload_n 0, 1) := by decide +kernel
theorem dX7_advances_142 : decode cX7_advances 142 = .ok (.aload_n 0, 1) := by decide +kernel
theorem dX7_advances_143 : decode cX7_advances 143 = .ok (.getfield 83, 3) := by decide +kernel
theorem dX7_advances_146 : decode cX7_advances 146 = .ok (.bipush 99, 2) := by decide +kernel
theorem dX7_advances_148 : decode cX7_advances 148 = .ok (.if_icmp .gt 22, 3) := by decide +kernel
theorem dX7_advances_151 : decode cX7_advances 151 = .ok (.iload_n 1, 1) := by decide +kernel
theorem dX7_advances_152 : decode cX7_advances 152 = .ok (.bipush 48, 2) := by decide +kernel
theorem dX7_advances_154 : decode cX7_advances 154 = .ok (.if_icmp .ne 20, 3) := by decide +kernel
theorem dX7_advances_157 : decode cX7_advances 157 = .ok (.aload_n 0, 1) := by decide +kernel
theorem dX7_advances_158 : decode cX7_advances 158 = .ok (.getfield 70, 3) := by decide +kernel
theorem dX7_advances_161 : decode cX7_advances 161 = .ok (.aload_n 0, 1) := by decide +kernel
theorem dX7_advances_162 : decode cX7_advances 162 = .ok (.getfield 77, 3) := by decide +kernel
theorem dX7_advances_165 : decode cX7_advances 165 = .ok (.isub, 1) := by decide +kernel
theorem dX7_advances_166 : decode cX7_advances 166 = .ok (.iconst 1, 1) := by decide +kernel
theorem dX7_advances_167 : decode cX7_advances 167 = .ok (.if_icmp .le 7, 3) := by decide +kernel
theorem dX7_advances_170 : decode cX7_advances 170 = .ok (.iconst 4, 1) := by decide +kernel
theorem dX7_advances_171 : decode cX7_advances 171 = .ok (.goto 4, 3) := by decide +kernel
theorem dX7_advances_174 : decode cX7_advances 174 = .ok (.iconst 2, 1) := by decide +kernel
theorem dX7_advances_175 : decode cX7_advances 175 = .ok (.putfield 80, 3) := by decide +kernel
theorem dX7_advances_178 : decode cX7_advances 178 = .ok (.goto 44, 3) := by decide +kernel
theorem dX7_advances_181 : decode cX7_advances 181 = .ok (.aload_n 0, 1) := by decide +kernel
theorem dX7_advances_182 : decode cX7_advances 182 = .ok (.dup, 1) := by decide +kernel
theorem dX7_advances_183 : decode cX7_advances 183 = .ok (.getfield 70, 3) := by decide +kernel
theorem dX7_advances_186 : decode cX7_advances 186 = .ok (.iconst 1, 1) := by decide +kernel
theorem dX7_advances_187 : decode cX7_advances 187 = .ok (.iadd, 1) := by decide +kernel
theorem dX7_advances_188 : decode cX7_advances 188 = .ok (.putfield 70, 3) := by decide +kernel
theorem dX7_advances_191 : decode cX7_advances 191 = .ok (.aload_n 0, 1) := by decide +kernel
theorem dX7_advances_192 : decode cX7_advances 192 = .ok (.iload_n 1, 1) := by decide +kernel
theorem dX7_advances_193 : decode cX7_advances 193 = .ok (.putfield 83, 3) := by decide +kernel
theorem dX7_advances_196 : decode cX7_advances 196 = .ok (.aload_n 0, 1) := by decide +kernel
theorem dX7_advances_197 : decode cX7_advances 197 = .ok (.iload_n 1, 1) := by decide +kernel
theorem dX7_advances_198 : decode cX7_advances 198 = .ok (.bipush 59, 2) := by decide +kernel
theorem dX7_advances_200 : decode cX7_advances 200 = .ok (.if_icmp .ne 7, 3) := by decide +kernel
theorem dX7_advances_203 : decode cX7_advances 203 = .ok (.iconst 3, 1) := by decide +kernel
theorem dX7_advances_204 : decode cX7_advances 204 = .ok (.goto 15, 3) := by decide +kernel
theorem dX7_advances_207 : decode cX7_advances 207 = .ok (.iload_n 1, 1) := by decide +kernel
theorem dX7_advances_208 : decode cX7_advances 208 = .ok (.invokestatic 86, 3) := by decide +kernel
theorem dX7_advances_211 : decode cX7_advances 211 = .ok (.ifCond .eq 7, 3) := by decide +kernel
theorem dX7_advances_214 : decode cX7_advances 214 = .ok (.iconst 1, 1) := by decide +kernel
theorem dX7_advances_215 : decode cX7_advances 215 = .ok (.goto 4, 3) := by decide +kernel
theorem dX7_advances_218 : decode cX7_advances 218 = .ok (.iconst 4, 1) := by decide +kernel
theorem dX7_advances_219 : decode cX7_advances 219 = .ok (.putfield 80, 3) := by decide +kernel
theorem dX7_advances_222 : decode cX7_advances 222 = .ok (.return_, 1) := by decide +kernel
theorem dX7_isWell_0 : decode cX7_isWell 0 = .ok (.aload_n 0, 1) := by decide +kernel
theorem dX7_isWell_1 : decode cX7_isWell 1 = .ok (.getfield 90, 3) := by decide +kernel
theorem dX7_isWell_4 : decode cX7_isWell 4 = .ok (.ifCond .ge 7, 3) := by decide +kernel
theorem dX7_isWell_7 : decode cX7_isWell 7 = .ok (.iconst 1, 1) := by decide +kernel
theorem dX7_isWell_8 : decode cX7_isWell 8 = .ok (.goto 4, 3) := by decide +kernel
theorem dX7_isWell_11 : decode cX7_isWell 11 = .ok (.iconst 0, 1) := by decide +kernel
theorem dX7_isWell_12 : decode cX7_isWell 12 = .ok (.ireturn, 1) := by decide +kernel
set_option maxRecDepth 20000 in
theorem ggX7_takes_X7_isWell : GoodIn wsX7_takes wsX7_isWell := goodIn_r _ [8, 2, 27, 28, 29, 30, 31, 32, 33, 34, 35, 36, 37, 38, 39, 40, 41, 42, 43, 44, 45, 46, 47, 48, 49, 50, 51] (by decide +kernel) (by decide +kernel)
set_option maxRecDepth 20000 in
theorem gX7_takes_X7_isWell : GoodIn wsX7_takes (wsV RX7 93 RX7 yX7_isWell wsX7_isWell) := goodIn_app (goodIn_of _ (by decide +kernel)) ggX7_takes_X7_isWell
set_option maxRecDepth 20000 in
theorem ggX7_takes_X7_advances : GoodIn wsX7_takes wsX7_advances := goodIn_r _ [12, 13, 1, 14, 3, 15, 16, 17, 7, 18, 19, 20, 21, 22, 23, 24, 25, 26, 27, 28, 29, 30, 31, 32, 33, 34, 35, 36, 37, 38, 39, 40, 41, 42, 43, 44, 45, 46, 47, 48, 49, 50, 51] (by decide +kernel) (by decide +kernel)
set_option maxRecDepth 20000 in
theorem gX7_takes_X7_advances : GoodIn wsX7_takes (wsV RX7 97 RX7 yX7_advances wsX7_advances) := goodIn_app (goodIn_of _ (by decide +kernel)) ggX7_takes_X7_advances
theorem dX7_takes_0 : decode cX7_takes 0 = .ok (.aload_n 0, 1) := by decide +kernel
theorem dX7_takes_1 : decode cX7_takes 1 = .ok (.invokevirtual 93, 3) := by decide +kernel
theorem dX7_takes_4 : decode cX7_takes 4 = .ok (.ifCond .ne 5, 3) := by decide +kernel
theorem dX7_takes_7 : decode cX7_takes 7 = .ok (.iconst 0, 1) := by decide +kernel
theorem dX7_takes_8 : decode cX7_takes 8 = .ok (.ireturn, 1) := by decide +kernel
theorem dX7_takes_9 : decode cX7_takes 9 = .ok (.iload_n 1, 1) := by decide +kernel
theorem dX7_takes_10 : decode cX7_takes 10 = .ok (.ifCond .ne 13, 3) := by decide +kernel
theorem dX7_takes_13 : decode cX7_takes 13 = .ok (.aload_n 0, 1) := by decide +kernel
theorem dX7_takes_14 : decode cX7_takes 14 = .ok (.aload_n 0, 1) := by decide +kernel
theorem dX7_takes_15 : decode cX7_takes 15 = .ok (.getfield 77, 3) := by decide +kernel
theorem dX7_takes_18 : decode cX7_takes 18 = .ok (.putfield 90, 3) := by decide +kernel
theorem dX7_takes_21 : decode cX7_takes 21 = .ok (.iconst 0, 1) := by decide +kernel
theorem dX7_takes_22 : decode cX7_takes 22 = .ok (.ireturn, 1) := by decide +kernel
theorem dX7_takes_23 : decode cX7_takes 23 = .ok (.aload_n 0, 1) := by decide +kernel
theorem dX7_takes_24 : decode cX7_takes 24 = .ok (.getfield 83, 3) := by decide +kernel
theorem dX7_takes_27 : decode cX7_takes 27 = .ok (.istore_n 2, 1) := by decide +kernel
theorem dX7_takes_28 : decode cX7_takes 28 = .ok (.aload_n 0, 1) := by decide +kernel
theorem dX7_takes_29 : decode cX7_takes 29 = .ok (.invokevirtual 97, 3) := by decide +kernel
theorem dX7_takes_32 : decode cX7_takes 32 = .ok (.iload_n 2, 1) := by decide +kernel
theorem dX7_takes_33 : decode cX7_takes 33 = .ok (.ireturn, 1) := by decide +kernel
set_option maxRecDepth 20000 in
theorem ggX7_number_X7_in : GoodIn wsX7_number wsX7_in := goodIn_r _ [6] (by decide +kernel) (by decide +kernel)
set_option maxRecDepth 20000 in
theorem gX7_number_X7_in : GoodIn wsX7_number (va_wsS RX7 63 yX7_in wsX7_in) := goodIn_app (goodIn_of _ (by decide +kernel)) ggX7_number_X7_in
set_option maxRecDepth 20000 in
theorem ggX7_number_X7_takes : GoodIn wsX7_number wsX7_takes := goodIn_r _ [10, 11, 12, 2, 13, 14, 15, 5, 16, 17, 18, 19, 20, 21, 1, 22, 23, 24, 25, 26, 27, 3, 4, 6, 28, 29, 30, 31, 32, 33, 34, 35, 36, 37, 38, 39, 40, 41, 42, 43, 44, 45, 46, 47, 48, 49, 50, 51, 52, 53, 54, 55] (by decide +kernel) (by decide +kernel)
set_option maxRecDepth 20000 in
theorem gX7_number_X7_takes : GoodIn wsX7_number (wsV RX7 100 RX7 yX7_takes wsX7_takes) := goodIn_app (goodIn_of _ (by decide +kernel)) ggX7_number_X7_takes
theorem dX7_number_0 : decode cX7_number 0 = .ok (.aload_n 0, 1) := by decide +kernel
theorem dX7_number_1 : decode cX7_number 1 = .ok (.aload_n 0, 1) := by decide +kernel
theorem dX7_number_2 : decode cX7_number 2 = .ok (.getfield 80, 3) := by decide +kernel
theorem dX7_number_5 : decode cX7_number 5 = .ok (.iconst 2, 1) := by decide +kernel
theorem dX7_number_6 : decode cX7_number 6 = .ok (.if_icmp .ne 19, 3) := by decide +kernel
theorem dX7_number_9 : decode cX7_number 9 = .ok (.aload_n 0, 1) := by decide +kernel
theorem dX7_number_10 : decode cX7_number 10 = .ok (.getfield 83, 3) := by decide +kernel
theorem dX7_number_13 : decode cX7_number 13 = .ok (.iload_n 1, 1) := by decide +kernel
theorem dX7_number_14 : decode cX7_number 14 = .ok (.iload_n 2, 1) := by decide +kernel
theorem dX7_number_15 : decode cX7_number 15 = .ok (.invokestatic 63, 3) := by decide +kernel
theorem dX7_number_18 : decode cX7_number 18 = .ok (.ifCond .eq 7, 3) := by decide +kernel
theorem dX7_number_21 : decode cX7_number 21 = .ok (.iconst 1, 1) := by decide +kernel
theorem dX7_number_22 : decode cX7_number 22 = .ok (.goto 4, 3) := by decide +kernel
theorem dX7_number_25 : decode cX7_number 25 = .ok (.iconst 0, 1) := by decide +kernel
theorem dX7_number_26 : decode cX7_number 26 = .ok (.invokevirtual 100, 3) := by decide +kernel
theorem dX7_number_29 : decode cX7_number 29 = .ok (.ireturn, 1) := by decide +kernel
theorem dX7_begins_0 : decode cX7_begins 0 = .ok (.aload_n 0, 1) := by decide +kernel
theorem dX7_begins_1 : decode cX7_begins 1 = .ok (.iconst 0, 1) := by decide +kernel
theorem dX7_begins_2 : decode cX7_begins 2 = .ok (.putfield 104, 3) := by decide +kernel
theorem dX7_begins_5 : decode cX7_begins 5 = .ok (.aload_n 0, 1) := by decide +kernel
theorem dX7_begins_6 : decode cX7_begins 6 = .ok (.getfield 13, 3) := by decide +kernel
theorem dX7_begins_9 : decode cX7_begins 9 = .ok (.iconst 4, 1) := by decide +kernel
theorem dX7_begins_10 : decode cX7_begins 10 = .ok (.iconst 0, 1) := by decide +kernel
theorem dX7_begins_11 : decode cX7_begins 11 = .ok (.iastore, 1) := by decide +kernel
theorem dX7_begins_12 : decode cX7_begins 12 = .ok (.aload_n 0, 1) := by decide +kernel
theorem dX7_begins_13 : decode cX7_begins 13 = .ok (.getfield 13, 3) := by decide +kernel
theorem dX7_begins_16 : decode cX7_begins 16 = .ok (.iconst 5, 1) := by decide +kernel
theorem dX7_begins_17 : decode cX7_begins 17 = .ok (.iconst 3, 1) := by decide +kernel
theorem dX7_begins_18 : decode cX7_begins 18 = .ok (.iastore, 1) := by decide +kernel
theorem dX7_begins_19 : decode cX7_begins 19 = .ok (.aload_n 0, 1) := by decide +kernel
theorem dX7_begins_20 : decode cX7_begins 20 = .ok (.getfield 13, 3) := by decide +kernel
theorem dX7_begins_23 : decode cX7_begins 23 = .ok (.bipush 6, 2) := by decide +kernel
theorem dX7_begins_25 : decode cX7_begins 25 = .ok (.iconst 0, 1) := by decide +kernel
theorem dX7_begins_26 : decode cX7_begins 26 = .ok (.iastore, 1) := by decide +kernel
theorem dX7_begins_27 : decode cX7_begins 27 = .ok (.aload_n 0, 1) := by decide +kernel
theorem dX7_begins_28 : decode cX7_begins 28 = .ok (.getfield 13, 3) := by decide +kernel
theorem dX7_begins_31 : decode cX7_begins 31 = .ok (.bipush 7, 2) := by decide +kernel
theorem dX7_begins_33 : decode cX7_begins 33 = .ok (.bipush 70, 2) := by decide +kernel
theorem dX7_begins_35 : decode cX7_begins 35 = .ok (.iastore, 1) := by decide +kernel
theorem dX7_begins_36 : decode cX7_begins 36 = .ok (.return_, 1) := by decide +kernel
theorem dX7_mayBegin_0 : decode cX7_mayBegin 0 = .ok (.aload_n 0, 1) := by decide +kernel
theorem dX7_mayBegin_1 : decode cX7_mayBegin 1 = .ok (.getfield 83, 3) := by decide +kernel
theorem dX7_mayBegin_4 : decode cX7_mayBegin 4 = .ok (.bipush 97, 2) := by decide +kernel
theorem dX7_mayBegin_6 : decode cX7_mayBegin 6 = .ok (.if_icmp .eq 12, 3) := by decide +kernel
theorem dX7_mayBegin_9 : decode cX7_mayBegin 9 = .ok (.aload_n 0, 1) := by decide +kernel
theorem dX7_mayBegin_10 : decode cX7_mayBegin 10 = .ok (.getfield 83, 3) := by decide +kernel
theorem dX7_mayBegin_13 : decode cX7_mayBegin 13 = .ok (.bipush 119, 2) := by decide +kernel
theorem dX7_mayBegin_15 : decode cX7_mayBegin 15 = .ok (.if_icmp .ne 48, 3) := by decide +kernel
theorem dX7_mayBegin_18 : decode cX7_mayBegin 18 = .ok (.aload_n 0, 1) := by decide +kernel
theorem dX7_mayBegin_19 : decode cX7_mayBegin 19 = .ok (.getfield 83, 3) := by decide +kernel
theorem dX7_mayBegin_22 : decode cX7_mayBegin 22 = .ok (.bipush 97, 2) := by decide +kernel
theorem dX7_mayBegin_24 : decode cX7_mayBegin 24 = .ok (.if_icmp .ne 22, 3) := by decide +kernel
theorem dX7_mayBegin_27 : decode cX7_mayBegin 27 = .ok (.aload_n 0, 1) := by decide +kernel
theorem dX7_mayBegin_28 : decode cX7_mayBegin 28 = .ok (.getfield 13, 3) := by decide +kernel
theorem dX7_mayBegin_31 : decode cX7_mayBegin 31 = .ok (.iconst 4, 1) := by decide +kernel
theorem dX7_mayBegin_32 : decode cX7_mayBegin 32 = .ok (.iaload, 1) := by decide +kernel
theorem dX7_mayBegin_33 : decode cX7_mayBegin 33 = .ok (.bipush 6, 2) := by decide +kernel
theorem dX7_mayBegin_35 : decode cX7_mayBegin 35 = .ok (.if_icmp .ge 7, 3) := by decide +kernel
theorem dX7_mayBegin_38 : decode cX7_mayBegin 38 = .ok (.iconst 1, 1) := by decide +kernel
theorem dX7_mayBegin_39 : decode cX7_mayBegin 39 = .ok (.goto 23, 3) := by decide +kernel
theorem dX7_mayBegin_42 : decode cX7_mayBegin 42 = .ok (.iconst 0, 1) := by decide +kernel
theorem dX7_mayBegin_43 : decode cX7_mayBegin 43 = .ok (.goto 19, 3) := by decide +kernel
theorem dX7_mayBegin_46 : decode cX7_mayBegin 46 = .ok (.aload_n 0, 1) := by decide +kernel
theorem dX7_mayBegin_47 : decode cX7_mayBegin 47 = .ok (.getfield 13, 3) := by decide +kernel
theorem dX7_mayBegin_50 : decode cX7_mayBegin 50 = .ok (.bipush 6, 2) := by decide +kernel
theorem dX7_mayBegin_52 : decode cX7_mayBegin 52 = .ok (.iaload, 1) := by decide +kernel
theorem dX7_mayBegin_53 : decode cX7_mayBegin 53 = .ok (.iconst 5, 1) := by decide +kernel
theorem dX7_mayBegin_54 : decode cX7_mayBegin 54 = .ok (.if_icmp .ge 7, 3) := by decide +kernel
theorem dX7_mayBegin_57 : decode cX7_mayBegin 57 = .ok (.iconst 1, 1) := by decide +kernel
theorem dX7_mayBegin_58 : decode cX7_mayBegin 58 = .ok (.goto 4, 3) := by decide +kernel
theorem dX7_mayBegin_61 : decode cX7_mayBegin 61 = .ok (.iconst 0, 1) := by decide +kernel
theorem dX7_mayBegin_62 : decode cX7_mayBegin 62 = .ok (.ireturn, 1) := by decide +kernel
theorem dX7_mayBegin_63 : decode cX7_mayBegin 63 = .ok (.aload_n 0, 1) := by decide +kernel
theorem dX7_mayBegin_64 : decode cX7_mayBegin 64 = .ok (.getfield 104, 3) := by decide +kernel
theorem dX7_mayBegin_67 : decode cX7_mayBegin 67 = .ok (.aload_n 0, 1) := by decide +kernel
theorem dX7_mayBegin_68 : decode cX7_mayBegin 68 = .ok (.getfield 83, 3) := by decide +kernel
theorem dX7_mayBegin_71 : decode cX7_mayBegin 71 = .ok (.bipush 109, 2) := by decide +kernel
theorem dX7_mayBegin_73 : decode cX7_mayBegin 73 = .ok (.if_icmp .ne 7, 3) := by decide +kernel
theorem dX7_mayBegin_76 : decode cX7_mayBegin 76 = .ok (.iconst 1, 1) := by decide +kernel
theorem dX7_mayBegin_77 : decode cX7_mayBegin 77 = .ok (.goto 4, 3) := by decide +kernel
theorem dX7_mayBegin_80 : decode cX7_mayBegin 80 = .ok (.iconst 2, 1) := by decide +kernel
theorem dX7_mayBegin_81 : decode cX7_mayBegin 81 = .ok (.iand, 1) := by decide +kernel
theorem dX7_mayBegin_82 : decode cX7_mayBegin 82 = .ok (.ifCond .ne 7, 3) := by decide +kernel
theorem dX7_mayBegin_85 : decode cX7_mayBegin 85 = .ok (.iconst 1, 1) := by decide +kernel
theorem dX7_mayBegin_86 : decode cX7_mayBegin 86 = .ok (.goto 4, 3) := by decide +kernel
theorem dX7_mayBegin_89 : decode cX7_mayBegin 89 = .ok (.iconst 0, 1) := by decide +kernel
theorem dX7_mayBegin_90 : decode cX7_mayBegin 90 = .ok (.ireturn, 1) := by decide +kernel
set_option maxRecDepth 20000 in
theorem ggX7_readsItem_X7_number : GoodIn wsX7_readsItem wsX7_number := goodIn_r _ [10, 11, 12, 13, 14, 9, 15, 16, 17, 18, 19, 20, 21, 22, 23, 24, 25, 26, 27, 28, 29, 30, 31, 32, 33, 34, 35, 36, 37, 38, 39, 40, 41, 42, 43, 44, 45, 46, 47, 48, 49, 50, 51, 52, 53, 54, 55, 56, 57, 58, 59, 60, 61, 62, 63, 64] (by decide +kernel) (by decide +kernel)
set_option maxRecDepth 20000 in
theorem gX7_readsItem_X7_number : GoodIn wsX7_readsItem (wsV RX7 107 RX7 yX7_number wsX7_number) := goodIn_app (goodIn_of _ (by decide +kernel)) ggX7_readsItem_X7_number
theorem dX7_readsItem_0 : decode cX7_readsItem 0 = .ok (.iload_n 1, 1) := by decide +kernel
theorem dX7_readsItem_1 : decode cX7_readsItem 1 = .ok (.bipush 97, 2) := by decide +kernel
theorem dX7_readsItem_3 : decode cX7_readsItem 3 = .ok (.if_icmp .ne 34, 3) := by decide +kernel
theorem dX7_readsItem_6 : decode cX7_readsItem 6 = .ok (.aload_n 0, 1) := by decide +kernel
theorem dX7_readsItem_7 : decode cX7_readsItem 7 = .ok (.getfield 16, 3) := by decide +kernel
theorem dX7_readsItem_10 : decode cX7_readsItem 10 = .ok (.aload_n 0, 1) := by decide +kernel
theorem dX7_readsItem_11 : decode cX7_readsItem 11 = .ok (.getfield 13, 3) := by decide +kernel
theorem dX7_readsItem_14 : decode cX7_readsItem 14 = .ok (.iconst 4, 1) := by decide +kernel
theorem dX7_readsItem_15 : decode cX7_readsItem 15 = .ok (.iaload, 1) := by decide +kernel
theorem dX7_readsItem_16 : decode cX7_readsItem 16 = .ok (.aload_n 0, 1) := by decide +kernel
theorem dX7_readsItem_17 : decode cX7_readsItem 17 = .ok (.iconst 0, 1) := by decide +kernel
theorem dX7_readsItem_18 : decode cX7_readsItem 18 = .ok (.bipush 99, 2) := by decide +kernel
theorem dX7_readsItem_20 : decode cX7_readsItem 20 = .ok (.invokevirtual 107, 3) := by decide +kernel
theorem dX7_readsItem_23 : decode cX7_readsItem 23 = .ok (.iastore, 1) := by decide +kernel
theorem dX7_readsItem_24 : decode cX7_readsItem 24 = .ok (.aload_n 0, 1) := by decide +kernel
theorem dX7_readsItem_25 : decode cX7_readsItem 25 = .ok (.getfield 13, 3) := by decide +kernel
theorem dX7_readsItem_28 : decode cX7_readsItem 28 = .ok (.iconst 4, 1) := by decide +kernel
theorem dX7_readsItem_29 : decode cX7_readsItem 29 = .ok (.dup2, 1) := by decide +kernel
theorem dX7_readsItem_30 : decode cX7_readsItem 30 = .ok (.iaload, 1) := by decide +kernel
theorem dX7_readsItem_31 : decode cX7_readsItem 31 = .ok (.iconst 1, 1) := by decide +kernel
theorem dX7_readsItem_32 : decode cX7_readsItem 32 = .ok (.iadd, 1) := by decide +kernel
theorem dX7_readsItem_33 : decode cX7_readsItem 33 = .ok (.iastore, 1) := by decide +kernel
theorem dX7_readsItem_34 : decode cX7_readsItem 34 = .ok (.goto 121, 3) := by decide +kernel
theorem dX7_readsItem_37 : decode cX7_readsItem 37 = .ok (.iload_n 1, 1) := by decide +kernel
theorem dX7_readsItem_38 : decode cX7_readsItem 38 = .ok (.bipush 119, 2) := by decide +kernel
theorem dX7_readsItem_40 : decode cX7_readsItem 40 = .ok (.if_icmp .ne 58, 3) := by decide +kernel
theorem dX7_readsItem_43 : decode cX7_readsItem 43 = .ok (.iconst 5, 1) := by decide +kernel
theorem dX7_readsItem_44 : decode cX7_readsItem 44 = .ok (.aload_n 0, 1) := by decide +kernel
theorem dX7_readsItem_45 : decode cX7_readsItem 45 = .ok (.getfield 13, 3) := by decide +kernel
theorem dX7_readsItem_48 : decode cX7_readsItem 48 = .ok (.bipush 6, 2) := by decide +kernel
theorem dX7_readsItem_50 : decode cX7_readsItem 50 = .ok (.iaload, 1) := by decide +kernel
theorem dX7_readsItem_51 : decode cX7_readsItem 51 = .ok (.iadd, 1) := by decide +kernel
theorem dX7_readsItem_52 : decode cX7_readsItem 52 = .ok (.istore_n 2, 1) := by decide +kernel
theorem dX7_readsItem_53 : decode cX7_readsItem 53 = .ok (.aload_n 0, 1) := by decide +kernel
theorem dX7_readsItem_54 : decode cX7_readsItem 54 = .ok (.getfield 19, 3) := by decide +kernel
theorem dX7_readsItem_57 : decode cX7_readsItem 57 = .ok (.iload_n 2, 1) := by decide +kernel
theorem dX7_readsItem_58 : decode cX7_readsItem 58 = .ok (.aload_n 0, 1) := by decide +kernel
theorem dX7_readsItem_59 : decode cX7_readsItem 59 = .ok (.iconst 0, 1) := by decide +kernel
theorem dX7_readsItem_60 : decode cX7_readsItem 60 = .ok (.bipush 99, 2) := by decide +kernel
theorem dX7_readsItem_62 : decode cX7_readsItem 62 = .ok (.invokevirtual 107, 3) := by decide +kernel
theorem dX7_readsItem_65 : decode cX7_readsItem 65 = .ok (.iastore, 1) := by decide +kernel
theorem dX7_readsItem_66 : decode cX7_readsItem 66 = .ok (.aload_n 0, 1) := by decide +kernel
theorem dX7_readsItem_67 : decode cX7_readsItem 67 = .ok (.getfield 22, 3) := by decide +kernel
theorem dX7_readsItem_70 : decode cX7_readsItem 70 = .ok (.iload_n 2, 1) := by decide +kernel
theorem dX7_readsItem_71 : decode cX7_readsItem 71 = .ok (.aload_n 0, 1) := by decide +kernel
theorem dX7_readsItem_72 : decode cX7_readsItem 72 = .ok (.aload_n 0, 1) := by decide +kernel
theorem dX7_readsItem_73 : decode cX7_readsItem 73 = .ok (.getfield 19, 3) := by decide +kernel
theorem dX7_readsItem_76 : decode cX7_readsItem 76 = .ok (.iload_n 2, 1) := by decide +kernel
theorem dX7_readsItem_77 : decode cX7_readsItem 77 = .ok (.iaload, 1) := by decide +kernel
theorem dX7_readsItem_78 : decode cX7_readsItem 78 = .ok (.bipush 99, 2) := by decide +kernel
theorem dX7_readsItem_80 : decode cX7_readsItem 80 = .ok (.invokevirtual 107, 3) := by decide +kernel
theorem dX7_readsItem_83 : decode cX7_readsItem 83 = .ok (.iastore, 1) := by decide +kernel
theorem dX7_readsItem_84 : decode cX7_readsItem 84 = .ok (.aload_n 0, 1) := by decide +kernel
theorem dX7_readsItem_85 : decode cX7_readsItem 85 = .ok (.getfield 13, 3) := by decide +kernel
theorem dX7_readsItem_88 : decode cX7_readsItem 88 = .ok (.bipush 6, 2) := by decide +kernel
theorem dX7_readsItem_90 : decode cX7_readsItem 90 = .ok (.dup2, 1) := by decide +kernel
theorem dX7_readsItem_91 : decode cX7_readsItem 91 = .ok (.iaload, 1) := by decide +kernel
theorem dX7_readsItem_92 : decode cX7_readsItem 92 = .ok (.iconst 1, 1) := by decide +kernel
theorem dX7_readsItem_93 : decode cX7_readsItem 93 = .ok (.iadd, 1) := by decide +kernel
theorem dX7_readsItem_94 : decode cX7_readsItem 94 = .ok (.iastore, 1) := by decide +kernel
theorem dX7_readsItem_95 : decode cX7_readsItem 95 = .ok (.goto 60, 3) := by decide +kernel
theorem dX7_readsItem_98 : decode cX7_readsItem 98 = .ok (.iload_n 1, 1) := by decide +kernel
theorem dX7_readsItem_99 : decode cX7_readsItem 99 = .ok (.bipush 109, 2) := by decide +kernel
theorem dX7_readsItem_101 : decode cX7_readsItem 101 = .ok (.if_icmp .ne 29, 3) := by decide +kernel
theorem dX7_readsItem_104 : decode cX7_readsItem 104 = .ok (.aload_n 0, 1) := by decide +kernel
theorem dX7_readsItem_105 : decode cX7_readsItem 105 = .ok (.getfield 13, 3) := by decide +kernel
theorem dX7_readsItem_108 : decode cX7_readsItem 108 = .ok (.iconst 5, 1) := by decide +kernel
theorem dX7_readsItem_109 : decode cX7_readsItem 109 = .ok (.aload_n 0, 1) := by decide +kernel
theorem dX7_readsItem_110 : decode cX7_readsItem 110 = .ok (.iconst 1, 1) := by decide +kernel
theorem dX7_readsItem_111 : decode cX7_readsItem 111 = .ok (.bipush 6, 2) := by decide +kernel
theorem dX7_readsItem_113 : decode cX7_readsItem 113 = .ok (.invokevirtual 107, 3) := by decide +kernel
theorem dX7_readsItem_116 : decode cX7_readsItem 116 = .ok (.iastore, 1) := by decide +kernel
theorem dX7_readsItem_117 : decode cX7_readsItem 117 = .ok (.aload_n 0, 1) := by decide +kernel
theorem dX7_readsItem_118 : decode cX7_readsItem 118 = .ok (.dup, 1) := by decide +kernel
theorem dX7_readsItem_119 : decode cX7_readsItem 119 = .ok (.getfield 104, 3) := by decide +kernel
theorem dX7_readsItem_122 : decode cX7_readsItem 122 = .ok (.iconst 1, 1) := by decide +kernel
theorem dX7_readsItem_123 : decode cX7_readsItem 123 = .ok (.ior, 1) := by decide +kernel
theorem dX7_readsItem_124 : decode cX7_readsItem 124 = .ok (.putfield 104, 3) := by decide +kernel
theorem dX7_readsItem_127 : decode cX7_readsItem 127 = .ok (.goto 28, 3) := by decide +kernel
theorem dX7_readsItem_130 : decode cX7_readsItem 130 = .ok (.aload_n 0, 1) := by decide +kernel
theorem dX7_readsItem_131 : decode cX7_readsItem 131 = .ok (.getfield 13, 3) := by decide +kernel
theorem dX7_readsItem_134 : decode cX7_readsItem 134 = .ok (.bipush 7, 2) := by decide +kernel
theorem dX7_readsItem_136 : decode cX7_readsItem 136 = .ok (.aload_n 0, 1) := by decide +kernel
theorem dX7_readsItem_137 : decode cX7_readsItem 137 = .ok (.bipush 10, 2) := by decide +kernel
theorem dX7_readsItem_139 : decode cX7_readsItem 139 = .ok (.bipush 99, 2) := by decide +kernel
theorem dX7_readsItem_141 : decode cX7_readsItem 141 = .ok (.invokevirtual 107, 3) := by decide +kernel
theorem dX7_readsItem_144 : decode cX7_readsItem 144 = .ok (.iastore, 1) := by decide +kernel
theorem dX7_readsItem_145 : decode cX7_readsItem 145 = .ok (.aload_n 0, 1) := by decide +kernel
theorem dX7_readsItem_146 : decode cX7_readsItem 146 = .ok (.dup, 1) := by decide +kernel
theorem dX7_readsItem_147 : decode cX7_readsItem 147 = .ok (.getfield 104, 3) := by decide +kernel
theorem dX7_readsItem_150 : decode cX7_readsItem 150 = .ok (.iconst 2, 1) := by decide +kernel
theorem dX7_readsItem_151 : decode cX7_readsItem 151 = .ok (.ior, 1) := by decide +kernel
theorem dX7_readsItem_152 : decode cX7_readsItem 152 = .ok (.putfield 104, 3) := by decide +kernel
theorem dX7_readsItem_155 : decode cX7_readsItem 155 = .ok (.return_, 1) := by decide +kernel
set_option maxRecDepth 20000 in
theorem ggX7_town_X7_begins : GoodIn wsX7_town wsX7_begins := goodIn_r _ [9, 10, 11, 61, 62, 63, 64, 65, 66, 67, 68, 69, 70, 71, 72, 73, 74, 75, 76, 77, 78, 79, 80, 81, 82, 83, 84, 85] (by decide +kernel) (by decide +kernel)
set_option maxRecDepth 20000 in
theorem gX7_town_X7_begins : GoodIn wsX7_town (wsV RX7 53 RX7 yX7_begins wsX7_begins) := goodIn_app (goodIn_of _ (by decide +kernel)) ggX7_town_X7_begins
set_option maxRecDepth 20000 in
theorem ggX7_town_X7_advances : GoodIn wsX7_town wsX7_advances := goodIn_r _ [15, 3, 16, 4, 17, 18, 19, 20, 8, 21, 22, 23, 24, 25, 26, 27, 28, 29, 61, 62, 63, 64, 65, 66, 67, 68, 69, 70, 71, 72, 73, 74, 75, 76, 77, 78, 79, 80, 81, 82, 83, 84, 85] (by decide +kernel) (by decide +kernel)
set_option maxRecDepth 20000 in
theorem gX7_town_X7_advances : GoodIn wsX7_town (wsV RX7 97 RX7 yX7_advances wsX7_advances) := goodIn_app (goodIn_of _ (by decide +kernel)) ggX7_town_X7_advances
set_option maxRecDepth 20000 in
theorem ggX7_town_X7_isWell : GoodIn wsX7_town wsX7_isWell := goodIn_r _ [33, 2, 61, 62, 63, 64, 65, 66, 67, 68, 69, 70, 71, 72, 73, 74, 75, 76, 77, 78, 79, 80, 81, 82, 83, 84, 85] (by decide +kernel) (by decide +kernel)
set_option maxRecDepth 20000 in
theorem gX7_town_X7_isWell : GoodIn wsX7_town (wsV RX7 93 RX7 yX7_isWell wsX7_isWell) := goodIn_app (goodIn_of _ (by decide +kernel)) ggX7_town_X7_isWell
set_option maxRecDepth 20000 in
theorem ggX7_town_X7_mayBegin : GoodIn wsX7_town wsX7_mayBegin := goodIn_r _ [37, 17, 11, 10, 61, 62, 63, 64, 65, 66, 67, 68, 69, 70, 71, 72, 73, 74, 75, 76, 77, 78, 79, 80, 81, 82, 83, 84, 85] (by decide +kernel) (by decide +kernel)
set_option maxRecDepth 20000 in
theorem gX7_town_X7_mayBegin : GoodIn wsX7_town (wsV RX7 111 RX7 yX7_mayBegin wsX7_mayBegin) := goodIn_app (goodIn_of _ (by decide +kernel)) ggX7_town_X7_mayBegin
set_option maxRecDepth 20000 in
theorem ggX7_town_X7_takes : GoodIn wsX7_town wsX7_takes := goodIn_r _ [41, 16, 2, 17, 30, 31, 32, 8, 33, 12, 13, 14, 15, 3, 4, 18, 19, 20, 21, 22, 23, 24, 25, 26, 27, 28, 29, 61, 62, 63, 64, 65, 66, 67, 68, 69, 70, 71, 72, 73, 74, 75, 76, 77, 78, 79, 80, 81, 82, 83, 84, 85] (by decide +kernel) (by decide +kernel)
set_option maxRecDepth 20000 in
theorem gX7_town_X7_takes : GoodIn wsX7_town (wsV RX7 100 RX7 yX7_takes wsX7_takes) := goodIn_app (goodIn_of _ (by decide +kernel)) ggX7_town_X7_takes
set_option maxRecDepth 20000 in
theorem ggX7_town_X7_readsItem : GoodIn wsX7_town wsX7_readsItem := goodIn_r _ [45, 46, 11, 47, 48, 10, 49, 50, 51, 8, 52, 4, 17, 24, 25, 26, 38, 39, 40, 41, 16, 2, 30, 31, 32, 33, 12, 13, 14, 15, 3, 18, 19, 20, 21, 22, 23, 27, 28, 29, 61, 62, 63, 64, 65, 66, 67, 68, 69, 70, 71, 72, 73, 74, 75, 76, 77, 78, 79, 80, 81, 82, 83, 84, 85] (by decide +kernel) (by decide +kernel)
set_option maxRecDepth 20000 in
theorem gX7_town_X7_readsItem : GoodIn wsX7_town (wsV RX7 114 RX7 yX7_readsItem wsX7_readsItem) := goodIn_app (goodIn_of _ (by decide +kernel)) ggX7_town_X7_readsItem
set_option maxRecDepth 20000 in
theorem ggX7_town_X7_settles : GoodIn wsX7_town wsX7_settles := goodIn_r _ [56, 11, 47, 48, 57, 46, 22, 58, 59, 60, 61, 62, 63, 64, 65, 66, 67, 68, 69, 70, 71, 72, 73, 74, 75, 76, 77, 78, 79, 80, 81, 82, 83, 84, 85] (by decide +kernel) (by decide +kernel)
set_option maxRecDepth 20000 in
theorem gX7_town_X7_settles : GoodIn wsX7_town (wsV RX7 56 RX7 yX7_settles wsX7_settles) := goodIn_app (goodIn_of _ (by decide +kernel)) ggX7_town_X7_settles
theorem dX7_town_0 : decode cX7_town 0 = .ok (.aload_n 0, 1) := by decide +kernel
theorem dX7_town_1 : decode cX7_town 1 = .ok (.iconst 0, 1) := by decide +kernel
theorem dX7_town_2 : decode cX7_town 2 = .ok (.putfield 59, 3) := by decide +kernel
theorem dX7_town_5 : decode cX7_town 5 = .ok (.aload_n 0, 1) := by decide +kernel
theorem dX7_town_6 : decode cX7_town 6 = .ok (.iconst (-1), 1) := by decide +kernel
theorem dX7_town_7 : decode cX7_town 7 = .ok (.putfield 90, 3) := by decide +kernel
theorem dX7_town_10 : decode cX7_town 10 = .ok (.aload_n 0, 1) := by decide +kernel
theorem dX7_town_11 : decode cX7_town 11 = .ok (.iconst 0, 1) := by decide +kernel
theorem dX7_town_12 : decode cX7_town 12 = .ok (.putfield 70, 3) := by decide +kernel
theorem dX7_town_15 : decode cX7_town 15 = .ok (.aload_n 0, 1) := by decide +kernel
theorem dX7_town_16 : decode cX7_town 16 = .ok (.invokevirtual 53, 3) := by decide +kernel
theorem dX7_town_19 : decode cX7_town 19 = .ok (.iconst 0, 1) := by decide +kernel
theorem dX7_town_20 : decode cX7_town 20 = .ok (.istore_n 1, 1) := by decide +kernel
theorem dX7_town_21 : decode cX7_town 21 = .ok (.aload_n 0, 1) := by decide +kernel
theorem dX7_town_22 : decode cX7_town 22 = .ok (.invokevirtual 97, 3) := by decide +kernel
theorem dX7_town_25 : decode cX7_town 25 = .ok (.aload_n 0, 1) := by decide +kernel
theorem dX7_town_26 : decode cX7_town 26 = .ok (.invokevirtual 93, 3) := by decide +kernel
theorem dX7_town_29 : decode cX7_town 29 = .ok (.ifCond .eq 71, 3) := by decide +kernel
theorem dX7_town_32 : decode cX7_town 32 = .ok (.aload_n 0, 1) := by decide +kernel
theorem dX7_town_33 : decode cX7_town 33 = .ok (.getfield 80, 3) := by decide +kernel
theorem dX7_town_36 : decode cX7_town 36 = .ok (.ifCond .eq 64, 3) := by decide +kernel
theorem dX7_town_39 : decode cX7_town 39 = .ok (.aload_n 0, 1) := by decide +kernel
theorem dX7_town_40 : decode cX7_town 40 = .ok (.aload_n 0, 1) := by decide +kernel
theorem dX7_town_41 : decode cX7_town 41 = .ok (.getfield 80, 3) := by decide +kernel
theorem dX7_town_44 : decode cX7_town 44 = .ok (.iconst 1, 1) := by decide +kernel
theorem dX7_town_45 : decode cX7_town 45 = .ok (.if_icmp .ne 14, 3) := by decide +kernel
theorem dX7_town_48 : decode cX7_town 48 = .ok (.aload_n 0, 1) := by decide +kernel
theorem dX7_town_49 : decode cX7_town 49 = .ok (.invokevirtual 111, 3) := by decide +kernel
theorem dX7_town_52 : decode cX7_town 52 = .ok (.ifCond .eq 7, 3) := by decide +kernel
theorem dX7_town_55 : decode cX7_town 55 = .ok (.iconst 1, 1) := by decide +kernel
theorem dX7_town_56 : decode cX7_town 56 = .ok (.goto 4, 3) := by decide +kernel
theorem dX7_town_59 : decode cX7_town 59 = .ok (.iconst 0, 1) := by decide +kernel
theorem dX7_town_60 : decode cX7_town 60 = .ok (.invokevirtual 100, 3) := by decide +kernel
theorem dX7_town_63 : decode cX7_town 63 = .ok (.istore_n 2, 1) := by decide +kernel
theorem dX7_town_64 : decode cX7_town 64 = .ok (.aload_n 0, 1) := by decide +kernel
theorem dX7_town_65 : decode cX7_town 65 = .ok (.invokevirtual 93, 3) := by decide +kernel
theorem dX7_town_68 : decode cX7_town 68 = .ok (.ifCond .eq 8, 3) := by decide +kernel
theorem dX7_town_71 : decode cX7_town 71 = .ok (.aload_n 0, 1) := by decide +kernel
theorem dX7_town_72 : decode cX7_town 72 = .ok (.iload_n 2, 1) := by decide +kernel
theorem dX7_town_73 : decode cX7_town 73 = .ok (.invokevirtual 114, 3) := by decide +kernel
theorem dX7_town_76 : decode cX7_town 76 = .ok (.aload_n 0, 1) := by decide +kernel
theorem dX7_town_77 : decode cX7_town 77 = .ok (.aload_n 0, 1) := by decide +kernel
theorem dX7_town_78 : decode cX7_town 78 = .ok (.getfield 80, 3) := by decide +kernel
theorem dX7_town_81 : decode cX7_town 81 = .ok (.iconst 3, 1) := by decide +kernel
theorem dX7_town_82 : decode cX7_town 82 = .ok (.if_icmp .ne 7, 3) := by decide +kernel
theorem dX7_town_85 : decode cX7_town 85 = .ok (.iconst 1, 1) := by decide +kernel
theorem dX7_town_86 : decode cX7_town 86 = .ok (.goto 4, 3) := by decide +kernel
theorem dX7_town_89 : decode cX7_town 89 = .ok (.iconst 0, 1) := by decide +kernel
theorem dX7_town_90 : decode cX7_town 90 = .ok (.invokevirtual 100, 3) := by decide +kernel
theorem dX7_town_93 : decode cX7_town 93 = .ok (.pop, 1) := by decide +kernel
theorem dX7_town_94 : decode cX7_town 94 = .ok (.iinc 1 1, 3) := by decide +kernel
theorem dX7_town_97 : decode cX7_town 97 = .ok (.goto (-72), 3) := by decide +kernel
theorem dX7_town_100 : decode cX7_town 100 = .ok (.aload_n 0, 1) := by decide +kernel
theorem dX7_town_101 : decode cX7_town 101 = .ok (.invokevirtual 93, 3) := by decide +kernel
theorem dX7_town_104 : decode cX7_town 104 = .ok (.ifCond .ne 11, 3) := by decide +kernel
theorem dX7_town_107 : decode cX7_town 107 = .ok (.bipush (-10), 2) := by decide +kernel
theorem dX7_town_109 : decode cX7_town 109 = .ok (.aload_n 0, 1) := by decide +kernel
theorem dX7_town_110 : decode cX7_town 110 = .ok (.getfield 90, 3) := by decide +kernel
theorem dX7_town_113 : decode cX7_town 113 = .ok (.isub, 1) := by decide +kernel
theorem dX7_town_114 : decode cX7_town 114 = .ok (.ireturn, 1) := by decide +kernel
theorem dX7_town_115 : decode cX7_town 115 = .ok (.aload_n 0, 1) := by decide +kernel
theorem dX7_town_116 : decode cX7_town 116 = .ok (.invokevirtual 56, 3) := by decide +kernel
theorem dX7_town_119 : decode cX7_town 119 = .ok (.iload_n 1, 1) := by decide +kernel
theorem dX7_town_120 : decode cX7_town 120 = .ok (.ireturn, 1) := by decide +kernel
theorem dX7_settles_0 : decode cX7_settles 0 = .ok (.iconst 0, 1) := by decide +kernel
theorem dX7_settles_1 : decode cX7_settles 1 = .ok (.istore_n 1, 1) := by decide +kernel
theorem dX7_settles_2 : decode cX7_settles 2 = .ok (.iload_n 1, 1) := by decide +kernel
theorem dX7_settles_3 : decode cX7_settles 3 = .ok (.iconst 4, 1) := by decide +kernel
theorem dX7_settles_4 : decode cX7_settles 4 = .ok (.if_icmp .ge 23, 3) := by decide +kernel
theorem dX7_settles_7 : decode cX7_settles 7 = .ok (.aload_n 0, 1) := by decide +kernel
theorem dX7_settles_8 : decode cX7_settles 8 = .ok (.getfield 13, 3) := by decide +kernel
theorem dX7_settles_11 : decode cX7_settles 11 = .ok (.iload_n 1, 1) := by decide +kernel
theorem dX7_settles_12 : decode cX7_settles 12 = .ok (.aload_n 0, 1) := by decide +kernel
theorem dX7_settles_13 : decode cX7_settles 13 = .ok (.getfield 13, 3) := by decide +kernel
theorem dX7_settles_16 : decode cX7_settles 16 = .ok (.iconst 4, 1) := by decide +kernel
theorem dX7_settles_17 : decode cX7_settles 17 = .ok (.iload_n 1, 1) := by decide +kernel
theorem dX7_settles_18 : decode cX7_settles 18 = .ok (.iadd, 1) := by decide +kernel
theorem dX7_settles_19 : decode cX7_settles 19 = .ok (.iaload, 1) := by decide +kernel
theorem dX7_settles_20 : decode cX7_settles 20 = .ok (.iastore, 1) := by decide +kernel
theorem dX7_settles_21 : decode cX7_settles 21 = .ok (.iinc 1 1, 3) := by decide +kernel
theorem dX7_settles_24 : decode cX7_settles 24 = .ok (.goto (-22), 3) := by decide +kernel
theorem dX7_settles_27 : decode cX7_settles 27 = .ok (.iconst 0, 1) := by decide +kernel
theorem dX7_settles_28 : decode cX7_settles 28 = .ok (.istore_n 1, 1) := by decide +kernel
theorem dX7_settles_29 : decode cX7_settles 29 = .ok (.iload_n 1, 1) := by decide +kernel
theorem dX7_settles_30 : decode cX7_settles 30 = .ok (.iconst 5, 1) := by decide +kernel
theorem dX7_settles_31 : decode cX7_settles 31 = .ok (.if_icmp .ge 37, 3) := by decide +kernel
theorem dX7_settles_34 : decode cX7_settles 34 = .ok (.aload_n 0, 1) := by decide +kernel
theorem dX7_settles_35 : decode cX7_settles 35 = .ok (.getfield 19, 3) := by decide +kernel
theorem dX7_settles_38 : decode cX7_settles 38 = .ok (.iload_n 1, 1) := by decide +kernel
theorem dX7_settles_39 : decode cX7_settles 39 = .ok (.aload_n 0, 1) := by decide +kernel
theorem dX7_settles_40 : decode cX7_settles 40 = .ok (.getfield 19, 3) := by decide +kernel
theorem dX7_settles_43 : decode cX7_settles 43 = .ok (.iconst 5, 1) := by decide +kernel
theorem dX7_settles_44 : decode cX7_settles 44 = .ok (.iload_n 1, 1) := by decide +kernel
theorem dX7_settles_45 : decode cX7_settles 45 = .ok (.iadd, 1) := by decide +kernel
theorem dX7_settles_46 : decode cX7_settles 46 = .ok (.iaload, 1) := by decide +kernel
theorem dX7_settles_47 : decode cX7_settles 47 = .ok (.iastore, 1) := by decide +kernel
theorem dX7_settles_48 : decode cX7_settles 48 = .ok (.aload_n 0, 1) := by decide +kernel
theorem dX7_settles_49 : decode cX7_settles 49 = .ok (.getfield 22, 3) := by decide +kernel
theorem dX7_settles_52 : decode cX7_settles 52 = .ok (.iload_n 1, 1) := by decide +kernel
theorem dX7_settles_53 : decode cX7_settles 53 = .ok (.aload_n 0, 1) := by decide +kernel
theorem dX7_settles_54 : decode cX7_settles 54 = .ok (.getfield 22, 3) := by decide +kernel
theorem dX7_settles_57 : decode cX7_settles 57 = .ok (.iconst 5, 1) := by decide +kernel
theorem dX7_settles_58 : decode cX7_settles 58 = .ok (.iload_n 1, 1) := by decide +kernel
theorem dX7_settles_59 : decode cX7_settles 59 = .ok (.iadd, 1) := by decide +kernel
theorem dX7_settles_60 : decode cX7_settles 60 = .ok (.iaload, 1) := by decide +kernel
theorem dX7_settles_61 : decode cX7_settles 61 = .ok (.iastore, 1) := by decide +kernel
theorem dX7_settles_62 : decode cX7_settles 62 = .ok (.iinc 1 1, 3) := by decide +kernel
theorem dX7_settles_65 : decode cX7_settles 65 = .ok (.goto (-36), 3) := by decide +kernel
theorem dX7_settles_68 : decode cX7_settles 68 = .ok (.iconst 0, 1) := by decide +kernel
theorem dX7_settles_69 : decode cX7_settles 69 = .ok (.istore_n 1, 1) := by decide +kernel
theorem dX7_settles_70 : decode cX7_settles 70 = .ok (.iload_n 1, 1) := by decide +kernel
theorem dX7_settles_71 : decode cX7_settles 71 = .ok (.bipush 21, 2) := by decide +kernel
theorem dX7_settles_73 : decode cX7_settles 73 = .ok (.if_icmp .ge 16, 3) := by decide +kernel
theorem dX7_settles_76 : decode cX7_settles 76 = .ok (.aload_n 0, 1) := by decide +kernel
theorem dX7_settles_77 : decode cX7_settles 77 = .ok (.getfield 25, 3) := by decide +kernel
theorem dX7_settles_80 : decode cX7_settles 80 = .ok (.iload_n 1, 1) := by decide +kernel
theorem dX7_settles_81 : decode cX7_settles 81 = .ok (.iconst 0, 1) := by decide +kernel
theorem dX7_settles_82 : decode cX7_settles 82 = .ok (.iastore, 1) := by decide +kernel
theorem dX7_settles_83 : decode cX7_settles 83 = .ok (.iinc 1 1, 3) := by decide +kernel
theorem dX7_settles_86 : decode cX7_settles 86 = .ok (.goto (-16), 3) := by decide +kernel
theorem dX7_settles_89 : decode cX7_settles 89 = .ok (.iconst 0, 1) := by decide +kernel
theorem dX7_settles_90 : decode cX7_settles 90 = .ok (.istore_n 1, 1) := by decide +kernel
theorem dX7_settles_91 : decode cX7_settles 91 = .ok (.iload_n 1, 1) := by decide +kernel
theorem dX7_settles_92 : decode cX7_settles 92 = .ok (.bipush 6, 2) := by decide +kernel
theorem dX7_settles_94 : decode cX7_settles 94 = .ok (.if_icmp .ge 47, 3) := by decide +kernel
theorem dX7_settles_97 : decode cX7_settles 97 = .ok (.aload_n 0, 1) := by decide +kernel
theorem dX7_settles_98 : decode cX7_settles 98 = .ok (.getfield 25, 3) := by decide +kernel
theorem dX7_settles_101 : decode cX7_settles 101 = .ok (.iconst 1, 1) := by decide +kernel
theorem dX7_settles_102 : decode cX7_settles 102 = .ok (.iload_n 1, 1) := by decide +kernel
theorem dX7_settles_103 : decode cX7_settles 103 = .ok (.iadd, 1) := by decide +kernel
theorem dX7_settles_104 : decode cX7_settles 104 = .ok (.iload_n 1, 1) := by decide +kernel
theorem dX7_settles_105 : decode cX7_settles 105 = .ok (.aload_n 0, 1) := by decide +kernel
theorem dX7_settles_106 : decode cX7_settles 106 = .ok (.getfield 13, 3) := by decide +kernel
theorem dX7_settles_109 : decode cX7_settles 109 = .ok (.iconst 0, 1) := by decide +kernel
theorem dX7_settles_110 : decode cX7_settles 110 = .ok (.iaload, 1) := by decide +kernel
theorem dX7_settles_111 : decode cX7_settles 111 = .ok (.if_icmp .ge 12, 3) := by decide +kernel
theorem dX7_settles_114 : decode cX7_settles 114 = .ok (.aload_n 0, 1) := by decide +kernel
theorem dX7_settles_115 : decode cX7_settles 115 = .ok (.getfield 16, 3) := by decide +kernel
theorem dX7_settles_118 : decode cX7_settles 118 = .ok (.iload_n 1, 1) := by decide +kernel
theorem dX7_settles_119 : decode cX7_settles 119 = .ok (.iaload, 1) := by decide +kernel
theorem dX7_settles_120 : decode cX7_settles 120 = .ok (.goto 4, 3) := by decide +kernel
theorem dX7_settles_123 : decode cX7_settles 123 = .ok (.iconst 0, 1) := by decide +kernel
theorem dX7_settles_124 : decode cX7_settles 124 = .ok (.iastore, 1) := by decide +kernel
theorem dX7_settles_125 : decode cX7_settles 125 = .ok (.aload_n 0, 1) := by decide +kernel
theorem dX7_settles_126 : decode cX7_settles 126 = .ok (.getfield 25, 3) := by decide +kernel
theorem dX7_settles_129 : decode cX7_settles 129 = .ok (.bipush 7, 2) := by decide +kernel
theorem dX7_settles_131 : decode cX7_settles 131 = .ok (.iload_n 1, 1) := by decide +kernel
theorem dX7_settles_132 : decode cX7_settles 132 = .ok (.iadd, 1) := by decide +kernel
theorem dX7_settles_133 : decode cX7_settles 133 = .ok (.iload_n 1, 1) := by decide +kernel
theorem dX7_settles_134 : decode cX7_settles 134 = .ok (.iastore, 1) := by decide +kernel
theorem dX7_settles_135 : decode cX7_settles 135 = .ok (.iinc 1 1, 3) := by decide +kernel
theorem dX7_settles_138 : decode cX7_settles 138 = .ok (.goto (-47), 3) := by decide +kernel
theorem dX7_settles_141 : decode cX7_settles 141 = .ok (.aload_n 0, 1) := by decide +kernel
theorem dX7_settles_142 : decode cX7_settles 142 = .ok (.iconst 0, 1) := by decide +kernel
theorem dX7_settles_143 : decode cX7_settles 143 = .ok (.putfield 67, 3) := by decide +kernel
theorem dX7_settles_146 : decode cX7_settles 146 = .ok (.aload_n 0, 1) := by decide +kernel
theorem dX7_settles_147 : decode cX7_settles 147 = .ok (.iconst 0, 1) := by decide +kernel
theorem dX7_settles_148 : decode cX7_settles 148 = .ok (.putfield 118, 3) := by decide +kernel
theorem dX7_settles_151 : decode cX7_settles 151 = .ok (.aload_n 0, 1) := by decide +kernel
theorem dX7_settles_152 : decode cX7_settles 152 = .ok (.iconst 0, 1) := by decide +kernel
theorem dX7_settles_153 : decode cX7_settles 153 = .ok (.putfield 121, 3) := by decide +kernel
theorem dX7_settles_156 : decode cX7_settles 156 = .ok (.aload_n 0, 1) := by decide +kernel
theorem dX7_settles_157 : decode cX7_settles 157 = .ok (.getfield 31, 3) := by decide +kernel
theorem dX7_settles_160 : decode cX7_settles 160 = .ok (.iconst 0, 1) := by decide +kernel
theorem dX7_settles_161 : decode cX7_settles 161 = .ok (.iconst 0, 1) := by decide +kernel
theorem dX7_settles_162 : decode cX7_settles 162 = .ok (.bastore, 1) := by decide +kernel
theorem dX7_settles_163 : decode cX7_settles 163 = .ok (.aload_n 0, 1) := by decide +kernel
theorem dX7_settles_164 : decode cX7_settles 164 = .ok (.getfield 31, 3) := by decide +kernel
theorem dX7_settles_167 : decode cX7_settles 167 = .ok (.iconst 1, 1) := by decide +kernel
theorem dX7_settles_168 : decode cX7_settles 168 = .ok (.iconst 0, 1) := by decide +kernel
theorem dX7_settles_169 : decode cX7_settles 169 = .ok (.bastore, 1) := by decide +kernel
theorem dX7_settles_170 : decode cX7_settles 170 = .ok (.return_, 1) := by decide +kernel
set_option maxRecDepth 20000 in
theorem ggX7_isRoom_X7_in : GoodIn wsX7_isRoom wsX7_in := goodIn_r _ [5] (by decide +kernel) (by decide +kernel)
set_option maxRecDepth 20000 in
theorem gX7_isRoom_X7_in : GoodIn wsX7_isRoom (va_wsS RX7 63 yX7_in wsX7_in) := goodIn_app (goodIn_of _ (by decide +kernel)) ggX7_isRoom_X7_in
theorem dX7_isRoom_0 : decode cX7_isRoom 0 = .ok (.iload_n 1, 1) := by decide +kernel
theorem dX7_isRoom_1 : decode cX7_isRoom 1 = .ok (.iconst 0, 1) := by decide +kernel
theorem dX7_isRoom_2 : decode cX7_isRoom 2 = .ok (.aload_n 0, 1) := by decide +kernel
theorem dX7_isRoom_3 : decode cX7_isRoom 3 = .ok (.getfield 13, 3) := by decide +kernel
theorem dX7_isRoom_6 : decode cX7_isRoom 6 = .ok (.iconst 0, 1) := by decide +kernel
theorem dX7_isRoom_7 : decode cX7_isRoom 7 = .ok (.iaload, 1) := by decide +kernel
theorem dX7_isRoom_8 : decode cX7_isRoom 8 = .ok (.iconst 1, 1) := by decide +kernel
theorem dX7_isRoom_9 : decode cX7_isRoom 9 = .ok (.isub, 1) := by decide +kernel
theorem dX7_isRoom_10 : decode cX7_isRoom 10 = .ok (.invokestatic 63, 3) := by decide +kernel
theorem dX7_isRoom_13 : decode cX7_isRoom 13 = .ok (.ireturn, 1) := by decide +kernel
set_option maxRecDepth 20000 in
theorem ggX7_isChild_X7_in : GoodIn wsX7_isChild wsX7_in := goodIn_r _ [5] (by decide +kernel) (by decide +kernel)
set_option maxRecDepth 20000 in
theorem gX7_isChild_X7_in : GoodIn wsX7_isChild (va_wsS RX7 63 yX7_in wsX7_in) := goodIn_app (goodIn_of _ (by decide +kernel)) ggX7_isChild_X7_in
theorem dX7_isChild_0 : decode cX7_isChild 0 = .ok (.iload_n 1, 1) := by decide +kernel
theorem dX7_isChild_1 : decode cX7_isChild 1 = .ok (.iconst 0, 1) := by decide +kernel
theorem dX7_isChild_2 : decode cX7_isChild 2 = .ok (.aload_n 0, 1) := by decide +kernel
theorem dX7_isChild_3 : decode cX7_isChild 3 = .ok (.getfield 13, 3) := by decide +kernel
theorem dX7_isChild_6 : decode cX7_isChild 6 = .ok (.iconst 1, 1) := by decide +kernel
theorem dX7_isChild_7 : decode cX7_isChild 7 = .ok (.iaload, 1) := by decide +kernel
theorem dX7_isChild_8 : decode cX7_isChild 8 = .ok (.iconst 1, 1) := by decide +kernel
theorem dX7_isChild_9 : decode cX7_isChild 9 = .ok (.isub, 1) := by decide +kernel
theorem dX7_isChild_10 : decode cX7_isChild 10 = .ok (.invokestatic 63, 3) := by decide +kernel
theorem dX7_isChild_13 : decode cX7_isChild 13 = .ok (.ireturn, 1) := by decide +kernel
set_option maxRecDepth 20000 in
theorem ggX7_isWork_X7_in : GoodIn wsX7_isWork wsX7_in := goodIn_r _ [5] (by decide +kernel) (by decide +kernel)
set_option maxRecDepth 20000 in
theorem gX7_isWork_X7_in : GoodIn wsX7_isWork (va_wsS RX7 63 yX7_in wsX7_in) := goodIn_app (goodIn_of _ (by decide +kernel)) ggX7_isWork_X7_in
theorem dX7_isWork_0 : decode cX7_isWork 0 = .ok (.iload_n 1, 1) := by decide +kernel
theorem dX7_isWork_1 : decode cX7_isWork 1 = .ok (.iconst 0, 1) := by decide +kernel
theorem dX7_isWork_2 : decode cX7_isWork 2 = .ok (.aload_n 0, 1) := by decide +kernel
theorem dX7_isWork_3 : decode cX7_isWork 3 = .ok (.getfield 13, 3) := by decide +kernel
theorem dX7_isWork_6 : decode cX7_isWork 6 = .ok (.iconst 2, 1) := by decide +kernel
theorem dX7_isWork_7 : decode cX7_isWork 7 = .ok (.iaload, 1) := by decide +kernel
theorem dX7_isWork_8 : decode cX7_isWork 8 = .ok (.iconst 1, 1) := by decide +kernel
theorem dX7_isWork_9 : decode cX7_isWork 9 = .ok (.isub, 1) := by decide +kernel
theorem dX7_isWork_10 : decode cX7_isWork 10 = .ok (.invokestatic 63, 3) := by decide +kernel
theorem dX7_isWork_13 : decode cX7_isWork 13 = .ok (.ireturn, 1) := by decide +kernel
theorem dX7_joinedWith_0 : decode cX7_joinedWith 0 = .ok (.iconst 0, 1) := by decide +kernel
theorem dX7_joinedWith_1 : decode cX7_joinedWith 1 = .ok (.istore_n 2, 1) := by decide +kernel
theorem dX7_joinedWith_2 : decode cX7_joinedWith 2 = .ok (.iconst 0, 1) := by decide +kernel
theorem dX7_joinedWith_3 : decode cX7_joinedWith 3 = .ok (.istore_n 3, 1) := by decide +kernel
theorem dX7_joinedWith_4 : decode cX7_joinedWith 4 = .ok (.iload_n 3, 1) := by decide +kernel
theorem dX7_joinedWith_5 : decode cX7_joinedWith 5 = .ok (.aload_n 0, 1) := by decide +kernel
theorem dX7_joinedWith_6 : decode cX7_joinedWith 6 = .ok (.getfield 13, 3) := by decide +kernel
theorem dX7_joinedWith_9 : decode cX7_joinedWith 9 = .ok (.iconst 0, 1) := by decide +kernel
theorem dX7_joinedWith_10 : decode cX7_joinedWith 10 = .ok (.iaload, 1) := by decide +kernel
theorem dX7_joinedWith_11 : decode cX7_joinedWith 11 = .ok (.if_icmp .ge 40, 3) := by decide +kernel
theorem dX7_joinedWith_14 : decode cX7_joinedWith 14 = .ok (.iload_n 2, 1) := by decide +kernel
theorem dX7_joinedWith_15 : decode cX7_joinedWith 15 = .ok (.aload_n 0, 1) := by decide +kernel
theorem dX7_joinedWith_16 : decode cX7_joinedWith 16 = .ok (.getfield 25, 3) := by decide +kernel
theorem dX7_joinedWith_19 : decode cX7_joinedWith 19 = .ok (.bipush 7, 2) := by decide +kernel
theorem dX7_joinedWith_21 : decode cX7_joinedWith 21 = .ok (.iload_n 3, 1) := by decide +kernel
theorem dX7_joinedWith_22 : decode cX7_joinedWith 22 = .ok (.iadd, 1) := by decide +kernel
theorem dX7_joinedWith_23 : decode cX7_joinedWith 23 = .ok (.iaload, 1) := by decide +kernel
theorem dX7_joinedWith_24 : decode cX7_joinedWith 24 = .ok (.aload_n 0, 1) := by decide +kernel
theorem dX7_joinedWith_25 : decode cX7_joinedWith 25 = .ok (.getfield 25, 3) := by decide +kernel
theorem dX7_joinedWith_28 : decode cX7_joinedWith 28 = .ok (.bipush 7, 2) := by decide +kernel
theorem dX7_joinedWith_30 : decode cX7_joinedWith 30 = .ok (.iload_n 1, 1) := by decide +kernel
theorem dX7_joinedWith_31 : decode cX7_joinedWith 31 = .ok (.iadd, 1) := by decide +kernel
theorem dX7_joinedWith_32 : decode cX7_joinedWith 32 = .ok (.iaload, 1) := by decide +kernel
theorem dX7_joinedWith_33 : decode cX7_joinedWith 33 = .ok (.if_icmp .ne 9, 3) := by decide +kernel
theorem dX7_joinedWith_36 : decode cX7_joinedWith 36 = .ok (.iconst 1, 1) := by decide +kernel
theorem dX7_joinedWith_37 : decode cX7_joinedWith 37 = .ok (.iload_n 3, 1) := by decide +kernel
theorem dX7_joinedWith_38 : decode cX7_joinedWith 38 = .ok (.ishl, 1) := by decide +kernel
theorem dX7_joinedWith_39 : decode cX7_joinedWith 39 = .ok (.goto 4, 3) := by decide +kernel
theorem dX7_joinedWith_42 : decode cX7_joinedWith 42 = .ok (.iconst 0, 1) := by decide +kernel
theorem dX7_joinedWith_43 : decode cX7_joinedWith 43 = .ok (.ior, 1) := by decide +kernel
theorem dX7_joinedWith_44 : decode cX7_joinedWith 44 = .ok (.istore_n 2, 1) := by decide +kernel
theorem dX7_joinedWith_45 : decode cX7_joinedWith 45 = .ok (.iinc 3 1, 3) := by decide +kernel
theorem dX7_joinedWith_48 : decode cX7_joinedWith 48 = .ok (.goto (-44), 3) := by decide +kernel
theorem dX7_joinedWith_51 : decode cX7_joinedWith 51 = .ok (.iload_n 2, 1) := by decide +kernel
theorem dX7_joinedWith_52 : decode cX7_joinedWith 52 = .ok (.ireturn, 1) := by decide +kernel
set_option maxRecDepth 20000 in
theorem ggX7_ageBy_X7_has : GoodIn wsX7_ageBy wsX7_has := goodIn_r _ [6] (by decide +kernel) (by decide +kernel)
set_option maxRecDepth 20000 in
theorem gX7_ageBy_X7_has : GoodIn wsX7_ageBy (va_wsS RX7 124 yX7_has wsX7_has) := goodIn_app (goodIn_of _ (by decide +kernel)) ggX7_ageBy_X7_has
set_option maxRecDepth 20000 in
theorem ggX7_ageBy_X7_ones : GoodIn wsX7_ageBy wsX7_ones := goodIn_r _ [9] (by decide +kernel) (by decide +kernel)
set_option maxRecDepth 20000 in
theorem gX7_ageBy_X7_ones : GoodIn wsX7_ageBy (va_wsS RX7 128 yX7_ones wsX7_ones) := goodIn_app (goodIn_of _ (by decide +kernel)) ggX7_ageBy_X7_ones
theorem dX7_ageBy_0 : decode cX7_ageBy 0 = .ok (.iconst 0, 1) := by decide +kernel
theorem dX7_ageBy_1 : decode cX7_ageBy 1 = .ok (.istore_n 2, 1) := by decide +kernel
theorem dX7_ageBy_2 : decode cX7_ageBy 2 = .ok (.iconst 0, 1) := by decide +kernel
theorem dX7_ageBy_3 : decode cX7_ageBy 3 = .ok (.istore_n 3, 1) := by decide +kernel
theorem dX7_ageBy_4 : decode cX7_ageBy 4 = .ok (.iload_n 3, 1) := by decide +kernel
theorem dX7_ageBy_5 : decode cX7_ageBy 5 = .ok (.aload_n 0, 1) := by decide +kernel
theorem dX7_ageBy_6 : decode cX7_ageBy 6 = .ok (.getfield 13, 3) := by decide +kernel
theorem dX7_ageBy_9 : decode cX7_ageBy 9 = .ok (.iconst 0, 1) := by decide +kernel
theorem dX7_ageBy_10 : decode cX7_ageBy 10 = .ok (.iaload, 1) := by decide +kernel
theorem dX7_ageBy_11 : decode cX7_ageBy 11 = .ok (.if_icmp .ge 32, 3) := by decide +kernel
theorem dX7_ageBy_14 : decode cX7_ageBy 14 = .ok (.iload_n 2, 1) := by decide +kernel
theorem dX7_ageBy_15 : decode cX7_ageBy 15 = .ok (.iload_n 1, 1) := by decide +kernel
theorem dX7_ageBy_16 : decode cX7_ageBy 16 = .ok (.iload_n 3, 1) := by decide +kernel
theorem dX7_ageBy_17 : decode cX7_ageBy 17 = .ok (.invokestatic 124, 3) := by decide +kernel
theorem dX7_ageBy_20 : decode cX7_ageBy 20 = .ok (.ifCond .eq 14, 3) := by decide +kernel
theorem dX7_ageBy_23 : decode cX7_ageBy 23 = .ok (.aload_n 0, 1) := by decide +kernel
theorem dX7_ageBy_24 : decode cX7_ageBy 24 = .ok (.getfield 25, 3) := by decide +kernel
theorem dX7_ageBy_27 : decode cX7_ageBy 27 = .ok (.iconst 1, 1) := by decide +kernel
theorem dX7_ageBy_28 : decode cX7_ageBy 28 = .ok (.iload_n 3, 1) := by decide +kernel
theorem dX7_ageBy_29 : decode cX7_ageBy 29 = .ok (.iadd, 1) := by decide +kernel
theorem dX7_ageBy_30 : decode cX7_ageBy 30 = .ok (.iaload, 1) := by decide +kernel
theorem dX7_ageBy_31 : decode cX7_ageBy 31 = .ok (.goto 4, 3) := by decide +kernel
theorem dX7_ageBy_34 : decode cX7_ageBy 34 = .ok (.iconst 0, 1) := by decide +kernel
theorem dX7_ageBy_35 : decode cX7_ageBy 35 = .ok (.iadd, 1) := by decide +kernel
theorem dX7_ageBy_36 : decode cX7_ageBy 36 = .ok (.istore_n 2, 1) := by decide +kernel
theorem dX7_ageBy_37 : decode cX7_ageBy 37 = .ok (.iinc 3 1, 3) := by decide +kernel
theorem dX7_ageBy_40 : decode cX7_ageBy 40 = .ok (.goto (-36), 3) := by decide +kernel
theorem dX7_ageBy_43 : decode cX7_ageBy 43 = .ok (.iload_n 2, 1) := by decide +kernel
theorem dX7_ageBy_44 : decode cX7_ageBy 44 = .ok (.iload_n 1, 1) := by decide +kernel
theorem dX7_ageBy_45 : decode cX7_ageBy 45 = .ok (.invokestatic 128, 3) := by decide +kernel
theorem dX7_ageBy_48 : decode cX7_ageBy 48 = .ok (.idiv, 1) := by decide +kernel
theorem dX7_ageBy_49 : decode cX7_ageBy 49 = .ok (.ireturn, 1) := by decide +kernel
set_option maxRecDepth 20000 in
theorem ggX7_ageOf_X7_joinedWith : GoodIn wsX7_ageOf wsX7_joinedWith := goodIn_r _ [5, 6, 7, 18, 19, 20, 21, 22, 23, 24, 25, 26, 27, 28, 29, 30, 31, 32, 33, 34, 35, 36, 37, 38, 39, 40, 41, 42] (by decide +kernel) (by decide +kernel)
set_option maxRecDepth 20000 in
theorem gX7_ageOf_X7_joinedWith : GoodIn wsX7_ageOf (wsV RX7 131 RX7 yX7_joinedWith wsX7_joinedWith) := goodIn_app (goodIn_of _ (by decide +kernel)) ggX7_ageOf_X7_joinedWith
set_option maxRecDepth 20000 in
theorem ggX7_ageOf_X7_ageBy : GoodIn wsX7_ageOf wsX7_ageBy := goodIn_r _ [11, 6, 7, 12, 13, 4, 14, 15, 16, 17, 18, 19, 20, 21, 22, 23, 24, 25, 26, 27, 28, 29, 30, 31, 32, 33, 34, 35, 36, 37, 38, 39, 40, 41, 42] (by decide +kernel) (by decide +kernel)
set_option maxRecDepth 20000 in
theorem gX7_ageOf_X7_ageBy : GoodIn wsX7_ageOf (wsV RX7 134 RX7 yX7_ageBy wsX7_ageBy) := goodIn_app (goodIn_of _ (by decide +kernel)) ggX7_ageOf_X7_ageBy
theorem dX7_ageOf_0 : decode cX7_ageOf 0 = .ok (.aload_n 0, 1) := by decide +kernel
theorem dX7_ageOf_1 : decode cX7_ageOf 1 = .ok (.aload_n 0, 1) := by decide +kernel
theorem dX7_ageOf_2 : decode cX7_ageOf 2 = .ok (.iload_n 1, 1) := by decide +kernel
theorem dX7_ageOf_3 : decode cX7_ageOf 3 = .ok (.invokevirtual 131, 3) := by decide +kernel
theorem dX7_ageOf_6 : decode cX7_ageOf 6 = .ok (.invokevirtual 134, 3) := by decide +kernel
theorem dX7_ageOf_9 : decode cX7_ageOf 9 = .ok (.ireturn, 1) := by decide +kernel
set_option maxRecDepth 20000 in
theorem ggX7_worksAt_X7_in : GoodIn wsX7_worksAt wsX7_in := goodIn_r _ [7] (by decide +kernel) (by decide +kernel)
set_option maxRecDepth 20000 in
theorem gX7_worksAt_X7_in : GoodIn wsX7_worksAt (va_wsS RX7 63 yX7_in wsX7_in) := goodIn_app (goodIn_of _ (by decide +kernel)) ggX7_worksAt_X7_in
theorem dX7_worksAt_0 : decode cX7_worksAt 0 = .ok (.iconst 0, 1) := by decide +kernel
theorem dX7_worksAt_1 : decode cX7_worksAt 1 = .ok (.istore_n 2, 1) := by decide +kernel
theorem dX7_worksAt_2 : decode cX7_worksAt 2 = .ok (.iconst 0, 1) := by decide +kernel
theorem dX7_worksAt_3 : decode cX7_worksAt 3 = .ok (.istore_n 3, 1) := by decide +kernel
theorem dX7_worksAt_4 : decode cX7_worksAt 4 = .ok (.iload_n 3, 1) := by decide +kernel
theorem dX7_worksAt_5 : decode cX7_worksAt 5 = .ok (.aload_n 0, 1) := by decide +kernel
theorem dX7_worksAt_6 : decode cX7_worksAt 6 = .ok (.getfield 13, 3) := by decide +kernel
theorem dX7_worksAt_9 : decode cX7_worksAt 9 = .ok (.iconst 2, 1) := by decide +kernel
theorem dX7_worksAt_10 : decode cX7_worksAt 10 = .ok (.iaload, 1) := by decide +kernel
theorem dX7_worksAt_11 : decode cX7_worksAt 11 = .ok (.if_icmp .ge 38, 3) := by decide +kernel
theorem dX7_worksAt_14 : decode cX7_worksAt 14 = .ok (.iload_n 2, 1) := by decide +kernel
theorem dX7_worksAt_15 : decode cX7_worksAt 15 = .ok (.iload_n 1, 1) := by decide +kernel
theorem dX7_worksAt_16 : decode cX7_worksAt 16 = .ok (.aload_n 0, 1) := by decide +kernel
theorem dX7_worksAt_17 : decode cX7_worksAt 17 = .ok (.getfield 19, 3) := by decide +kernel
theorem dX7_worksAt_20 : decode cX7_worksAt 20 = .ok (.iload_n 3, 1) := by decide +kernel
theorem dX7_worksAt_21 : decode cX7_worksAt 21 = .ok (.iaload, 1) := by decide +kernel
theorem dX7_worksAt_22 : decode cX7_worksAt 22 = .ok (.aload_n 0, 1) := by decide +kernel
theorem dX7_worksAt_23 : decode cX7_worksAt 23 = .ok (.getfield 22, 3) := by decide +kernel
theorem dX7_worksAt_26 : decode cX7_worksAt 26 = .ok (.iload_n 3, 1) := by decide +kernel
theorem dX7_worksAt_27 : decode cX7_worksAt 27 = .ok (.iaload, 1) := by decide +kernel
theorem dX7_worksAt_28 : decode cX7_worksAt 28 = .ok (.invokestatic 63, 3) := by decide +kernel
theorem dX7_worksAt_31 : decode cX7_worksAt 31 = .ok (.ifCond .eq 9, 3) := by decide +kernel
theorem dX7_worksAt_34 : decode cX7_worksAt 34 = .ok (.iconst 1, 1) := by decide +kernel
theorem dX7_worksAt_35 : decode cX7_worksAt 35 = .ok (.iload_n 3, 1) := by decide +kernel
theorem dX7_worksAt_36 : decode cX7_worksAt 36 = .ok (.ishl, 1) := by decide +kernel
theorem dX7_worksAt_37 : decode cX7_worksAt 37 = .ok (.goto 4, 3) := by decide +kernel
theorem dX7_worksAt_40 : decode cX7_worksAt 40 = .ok (.iconst 0, 1) := by decide +kernel
theorem dX7_worksAt_41 : decode cX7_worksAt 41 = .ok (.ior, 1) := by decide +kernel
theorem dX7_worksAt_42 : decode cX7_worksAt 42 = .ok (.istore_n 2, 1) := by decide +kernel
theorem dX7_worksAt_43 : decode cX7_worksAt 43 = .ok (.iinc 3 1, 3) := by decide +kernel
theorem dX7_worksAt_46 : decode cX7_worksAt 46 = .ok (.goto (-42), 3) := by decide +kernel
theorem dX7_worksAt_49 : decode cX7_worksAt 49 = .ok (.iload_n 2, 1) := by decide +kernel
theorem dX7_worksAt_50 : decode cX7_worksAt 50 = .ok (.ireturn, 1) := by decide +kernel
set_option maxRecDepth 20000 in
theorem ggX7_worksOf_X7_has : GoodIn wsX7_worksOf wsX7_has := goodIn_r _ [5] (by decide +kernel) (by decide +kernel)
set_option maxRecDepth 20000 in
theorem gX7_worksOf_X7_has : GoodIn wsX7_worksOf (va_wsS RX7 124 yX7_has wsX7_has) := goodIn_app (goodIn_of _ (by decide +kernel)) ggX7_worksOf_X7_has
set_option maxRecDepth 20000 in
theorem ggX7_worksOf_X7_worksAt : GoodIn wsX7_worksOf wsX7_worksAt := goodIn_r _ [9, 10, 11, 12, 13, 14, 4, 15, 16, 17, 18, 19, 20, 21, 22, 23, 24, 25, 26, 27, 28, 29, 30, 31, 32, 33, 34, 35, 36, 37, 38, 39, 40] (by decide +kernel) (by decide +kernel)
set_option maxRecDepth 20000 in
theorem gX7_worksOf_X7_worksAt : GoodIn wsX7_worksOf (wsV RX7 137 RX7 yX7_worksAt wsX7_worksAt) := goodIn_app (goodIn_of _ (by decide +kernel)) ggX7_worksOf_X7_worksAt
theorem dX7_worksOf_0 : decode cX7_worksOf 0 = .ok (.aload_n 0, 1) := by decide +kernel
theorem dX7_worksOf_1 : decode cX7_worksOf 1 = .ok (.getfield 25, 3) := by decide +kernel
theorem dX7_worksOf_4 : decode cX7_worksOf 4 = .ok (.bipush 14, 2) := by decide +kernel
theorem dX7_worksOf_6 : decode cX7_worksOf 6 = .ok (.iaload, 1) := by decide +kernel
theorem dX7_worksOf_7 : decode cX7_worksOf 7 = .ok (.iload_n 1, 1) := by decide +kernel
theorem dX7_worksOf_8 : decode cX7_worksOf 8 = .ok (.invokestatic 124, 3) := by decide +kernel
theorem dX7_worksOf_11 : decode cX7_worksOf 11 = .ok (.ifCond .eq 19, 3) := by decide +kernel
theorem dX7_worksOf_14 : decode cX7_worksOf 14 = .ok (.aload_n 0, 1) := by decide +kernel
theorem dX7_worksOf_15 : decode cX7_worksOf 15 = .ok (.aload_n 0, 1) := by decide +kernel
theorem dX7_worksOf_16 : decode cX7_worksOf 16 = .ok (.getfield 25, 3) := by decide +kernel
theorem dX7_worksOf_19 : decode cX7_worksOf 19 = .ok (.bipush 15, 2) := by decide +kernel
theorem dX7_worksOf_21 : decode cX7_worksOf 21 = .ok (.iload_n 1, 1) := by decide +kernel
theorem dX7_worksOf_22 : decode cX7_worksOf 22 = .ok (.iadd, 1) := by decide +kernel
theorem dX7_worksOf_23 : decode cX7_worksOf 23 = .ok (.iaload, 1) := by decide +kernel
theorem dX7_worksOf_24 : decode cX7_worksOf 24 = .ok (.invokevirtual 137, 3) := by decide +kernel
theorem dX7_worksOf_27 : decode cX7_worksOf 27 = .ok (.goto 4, 3) := by decide +kernel
theorem dX7_worksOf_30 : decode cX7_worksOf 30 = .ok (.iconst 0, 1) := by decide +kernel
theorem dX7_worksOf_31 : decode cX7_worksOf 31 = .ok (.ireturn, 1) := by decide +kernel
set_option maxRecDepth 20000 in
theorem ggX7_whoCan_X7_worksOf : GoodIn wsX7_whoCan wsX7_worksOf := goodIn_r _ [6, 7, 8, 9, 5, 10, 11, 12, 13, 14, 1, 15, 16, 17, 18, 19, 20, 21, 22, 23, 24, 25, 26, 27, 28, 29, 30, 31, 32, 33, 34, 35, 36, 37, 38, 39, 40, 41, 42, 43, 44] (by decide +kernel) (by decide +kernel)
set_option maxRecDepth 20000 in
theorem gX7_whoCan_X7_worksOf : GoodIn wsX7_whoCan (wsV RX7 140 RX7 yX7_worksOf wsX7_worksOf) := goodIn_app (goodIn_of _ (by decide +kernel)) ggX7_whoCan_X7_worksOf
set_option maxRecDepth 20000 in
theorem ggX7_whoCan_X7_has : GoodIn wsX7_whoCan wsX7_has := goodIn_r _ [10] (by decide +kernel) (by decide +kernel)
set_option maxRecDepth 20000 in
theorem gX7_whoCan_X7_has : GoodIn wsX7_whoCan (va_wsS RX7 124 yX7_has wsX7_has) := goodIn_app (goodIn_of _ (by decide +kernel)) ggX7_whoCan_X7_has
theorem dX7_whoCan_0 : decode cX7_whoCan 0 = .ok (.iconst 0, 1) := by decide +kernel
theorem dX7_whoCan_1 : decode cX7_whoCan 1 = .ok (.istore_n 2, 1) := by decide +kernel
theorem dX7_whoCan_2 : decode cX7_whoCan 2 = .ok (.iconst 0, 1) := by decide +kernel
theorem dX7_whoCan_3 : decode cX7_whoCan 3 = .ok (.istore_n 3, 1) := by decide +kernel
theorem dX7_whoCan_4 : decode cX7_whoCan 4 = .ok (.iload_n 3, 1) := by decide +kernel
theorem dX7_whoCan_5 : decode cX7_whoCan 5 = .ok (.aload_n 0, 1) := by decide +kernel
theorem dX7_whoCan_6 : decode cX7_whoCan 6 = .ok (.getfield 13, 3) := by decide +kernel
theorem dX7_whoCan_9 : decode cX7_whoCan 9 = .ok (.iconst 1, 1) := by decide +kernel
theorem dX7_whoCan_10 : decode cX7_whoCan 10 = .ok (.iaload, 1) := by decide +kernel
theorem dX7_whoCan_11 : decode cX7_whoCan 11 = .ok (.if_icmp .ge 31, 3) := by decide +kernel
theorem dX7_whoCan_14 : decode cX7_whoCan 14 = .ok (.iload_n 2, 1) := by decide +kernel
theorem dX7_whoCan_15 : decode cX7_whoCan 15 = .ok (.aload_n 0, 1) := by decide +kernel
theorem dX7_whoCan_16 : decode cX7_whoCan 16 = .ok (.iload_n 3, 1) := by decide +kernel
theorem dX7_whoCan_17 : decode cX7_whoCan 17 = .ok (.invokevirtual 140, 3) := by decide +kernel
theorem dX7_whoCan_20 : decode cX7_whoCan 20 = .ok (.iload_n 1, 1) := by decide +kernel
theorem dX7_whoCan_21 : decode cX7_whoCan 21 = .ok (.invokestatic 124, 3) := by decide +kernel
theorem dX7_whoCan_24 : decode cX7_whoCan 24 = .ok (.ifCond .eq 9, 3) := by decide +kernel
theorem dX7_whoCan_27 : decode cX7_whoCan 27 = .ok (.iconst 1, 1) := by decide +kernel
theorem dX7_whoCan_28 : decode cX7_whoCan 28 = .ok (.iload_n 3, 1) := by decide +kernel
theorem dX7_whoCan_29 : decode cX7_whoCan 29 = .ok (.ishl, 1) := by decide +kernel
theorem dX7_whoCan_30 : decode cX7_whoCan 30 = .ok (.goto 4, 3) := by decide +kernel
theorem dX7_whoCan_33 : decode cX7_whoCan 33 = .ok (.iconst 0, 1) := by decide +kernel
theorem dX7_whoCan_34 : decode cX7_whoCan 34 = .ok (.ior, 1) := by decide +kernel
theorem dX7_whoCan_35 : decode cX7_whoCan 35 = .ok (.istore_n 2, 1) := by decide +kernel
theorem dX7_whoCan_36 : decode cX7_whoCan 36 = .ok (.iinc 3 1, 3) := by decide +kernel
theorem dX7_whoCan_39 : decode cX7_whoCan 39 = .ok (.goto (-35), 3) := by decide +kernel
theorem dX7_whoCan_42 : decode cX7_whoCan 42 = .ok (.iload_n 2, 1) := by decide +kernel
theorem dX7_whoCan_43 : decode cX7_whoCan 43 = .ok (.ireturn, 1) := by decide +kernel
set_option maxRecDepth 20000 in
theorem ggX7_isDoneIn_X7_has : GoodIn wsX7_isDoneIn wsX7_has := goodIn_r _ [8] (by decide +kernel) (by decide +kernel)
set_option maxRecDepth 20000 in
theorem gX7_isDoneIn_X7_has : GoodIn wsX7_isDoneIn (va_wsS RX7 124 yX7_has wsX7_has) := goodIn_app (goodIn_of _ (by decide +kernel)) ggX7_isDoneIn_X7_has
set_option maxRecDepth 20000 in
theorem ggX7_isDoneIn_X7_in : GoodIn wsX7_isDoneIn wsX7_in := goodIn_r _ [11] (by decide +kernel) (by decide +kernel)
set_option maxRecDepth 20000 in
theorem gX7_isDoneIn_X7_in : GoodIn wsX7_isDoneIn (va_wsS RX7 63 yX7_in wsX7_in) := goodIn_app (goodIn_of _ (by decide +kernel)) ggX7_isDoneIn_X7_in
theorem dX7_isDoneIn_0 : decode cX7_isDoneIn 0 = .ok (.iconst 0, 1) := by decide +kernel
theorem dX7_isDoneIn_1 : decode cX7_isDoneIn 1 = .ok (.istore_n 3, 1) := by decide +kernel
theorem dX7_isDoneIn_2 : decode cX7_isDoneIn 2 = .ok (.iconst 0, 1) := by decide +kernel
theorem dX7_isDoneIn_3 : decode cX7_isDoneIn 3 = .ok (.istore 4, 2) := by decide +kernel
theorem dX7_isDoneIn_5 : decode cX7_isDoneIn 5 = .ok (.iload 4, 2) := by decide +kernel
theorem dX7_isDoneIn_7 : decode cX7_isDoneIn 7 = .ok (.aload_n 0, 1) := by decide +kernel
theorem dX7_isDoneIn_8 : decode cX7_isDoneIn 8 = .ok (.getfield 13, 3) := by decide +kernel
theorem dX7_isDoneIn_11 : decode cX7_isDoneIn 11 = .ok (.iconst 1, 1) := by decide +kernel
theorem dX7_isDoneIn_12 : decode cX7_isDoneIn 12 = .ok (.iaload, 1) := by decide +kernel
theorem dX7_isDoneIn_13 : decode cX7_isDoneIn 13 = .ok (.if_icmp .ge 79, 3) := by decide +kernel
theorem dX7_isDoneIn_16 : decode cX7_isDoneIn 16 = .ok (.aload_n 0, 1) := by decide +kernel
theorem dX7_isDoneIn_17 : decode cX7_isDoneIn 17 = .ok (.getfield 25, 3) := by decide +kernel
theorem dX7_isDoneIn_20 : decode cX7_isDoneIn 20 = .ok (.bipush 15, 2) := by decide +kernel
theorem dX7_isDoneIn_22 : decode cX7_isDoneIn 22 = .ok (.iload 4, 2) := by decide +kernel
theorem dX7_isDoneIn_24 : decode cX7_isDoneIn 24 = .ok (.iadd, 1) := by decide +kernel
theorem dX7_isDoneIn_25 : decode cX7_isDoneIn 25 = .ok (.iaload, 1) := by decide +kernel
theorem dX7_isDoneIn_26 : decode cX7_isDoneIn 26 = .ok (.iload_n 2, 1) := by decide +kernel
theorem dX7_isDoneIn_27 : decode cX7_isDoneIn 27 = .ok (.iadd, 1) := by decide +kernel
theorem dX7_isDoneIn_28 : decode cX7_isDoneIn 28 = .ok (.istore 5, 2) := by decide +kernel
theorem dX7_isDoneIn_30 : decode cX7_isDoneIn 30 = .ok (.iload_n 3, 1) := by decide +kernel
theorem dX7_isDoneIn_31 : decode cX7_isDoneIn 31 = .ok (.ifCond .ne 49, 3) := by decide +kernel
theorem dX7_isDoneIn_34 : decode cX7_isDoneIn 34 = .ok (.aload_n 0, 1) := by decide +kernel
theorem dX7_isDoneIn_35 : decode cX7_isDoneIn 35 = .ok (.getfield 25, 3) := by decide +kernel
theorem dX7_isDoneIn_38 : decode cX7_isDoneIn 38 = .ok (.bipush 14, 2) := by decide +kernel
theorem dX7_isDoneIn_40 : decode cX7_isDoneIn 40 = .ok (.iaload, 1) := by decide +kernel
theorem dX7_isDoneIn_41 : decode cX7_isDoneIn 41 = .ok (.iload 4, 2) := by decide +kernel
theorem dX7_isDoneIn_43 : decode cX7_isDoneIn 43 = .ok (.invokestatic 124, 3) := by decide +kernel
theorem dX7_isDoneIn_46 : decode cX7_isDoneIn 46 = .ok (.ifCond .eq 38, 3) := by decide +kernel
theorem dX7_isDoneIn_49 : decode cX7_isDoneIn 49 = .ok (.iload 5, 2) := by decide +kernel
theorem dX7_isDoneIn_51 : decode cX7_isDoneIn 51 = .ok (.aload_n 0, 1) := by decide +kernel
theorem dX7_isDoneIn_52 : decode cX7_isDoneIn 52 = .ok (.getfield 13, 3) := by decide +kernel
theorem dX7_isDoneIn_55 : decode cX7_isDoneIn 55 = .ok (.iconst 3, 1) := by decide +kernel
theorem dX7_isDoneIn_56 : decode cX7_isDoneIn 56 = .ok (.iaload, 1) := by decide +kernel
theorem dX7_isDoneIn_57 : decode cX7_isDoneIn 57 = .ok (.if_icmp .ge 27, 3) := by decide +kernel
theorem dX7_isDoneIn_60 : decode cX7_isDoneIn 60 = .ok (.iload 5, 2) := by decide +kernel
theorem dX7_isDoneIn_62 : decode cX7_isDoneIn 62 = .ok (.aload_n 0, 1) := by decide +kernel
theorem dX7_isDoneIn_63 : decode cX7_isDoneIn 63 = .ok (.getfield 19, 3) := by decide +kernel
theorem dX7_isDoneIn_66 : decode cX7_isDoneIn 66 = .ok (.iload_n 1, 1) := by decide +kernel
theorem dX7_isDoneIn_67 : decode cX7_isDoneIn 67 = .ok (.iaload, 1) := by decide +kernel
theorem dX7_isDoneIn_68 : decode cX7_isDoneIn 68 = .ok (.aload_n 0, 1) := by decide +kernel
theorem dX7_isDoneIn_69 : decode cX7_isDoneIn 69 = .ok (.getfield 22, 3) := by decide +kernel
theorem dX7_isDoneIn_72 : decode cX7_isDoneIn 72 = .ok (.iload_n 1, 1) := by decide +kernel
theorem dX7_isDoneIn_73 : decode cX7_isDoneIn 73 = .ok (.iaload, 1) := by decide +kernel
theorem dX7_isDoneIn_74 : decode cX7_isDoneIn 74 = .ok (.invokestatic 63, 3) := by decide +kernel
theorem dX7_isDoneIn_77 : decode cX7_isDoneIn 77 = .ok (.ifCond .eq 7, 3) := by decide +kernel
theorem dX7_isDoneIn_80 : decode cX7_isDoneIn 80 = .ok (.iconst 1, 1) := by decide +kernel
theorem dX7_isDoneIn_81 : decode cX7_isDoneIn 81 = .ok (.goto 4, 3) := by decide +kernel
theorem dX7_isDoneIn_84 : decode cX7_isDoneIn 84 = .ok (.iconst 0, 1) := by decide +kernel
theorem dX7_isDoneIn_85 : decode cX7_isDoneIn 85 = .ok (.istore_n 3, 1) := by decide +kernel
theorem dX7_isDoneIn_86 : decode cX7_isDoneIn 86 = .ok (.iinc 4 1, 3) := by decide +kernel
theorem dX7_isDoneIn_89 : decode cX7_isDoneIn 89 = .ok (.goto (-84), 3) := by decide +kernel
theorem dX7_isDoneIn_92 : decode cX7_isDoneIn 92 = .ok (.iload_n 3, 1) := by decide +kernel
theorem dX7_isDoneIn_93 : decode cX7_isDoneIn 93 = .ok (.ireturn, 1) := by decide +kernel
set_option maxRecDepth 20000 in
theorem ggX7_lastsOf_X7_isDoneIn : GoodIn wsX7_lastsOf wsX7_isDoneIn := goodIn_r _ [5, 6, 7, 8, 9, 10, 11, 4, 12, 13, 14, 15, 16, 17, 18, 19, 20, 21, 22, 23, 24, 25, 26, 27, 28, 29, 30, 31, 32, 33, 34, 35, 36, 37, 38, 39, 40] (by decide +kernel) (by decide +kernel)
set_option maxRecDepth 20000 in
theorem gX7_lastsOf_X7_isDoneIn : GoodIn wsX7_lastsOf (wsV RX7 143 RX7 yX7_isDoneIn wsX7_isDoneIn) := goodIn_app (goodIn_of _ (by decide +kernel)) ggX7_lastsOf_X7_isDoneIn
theorem dX7_lastsOf_0 : decode cX7_lastsOf 0 = .ok (.iconst 0, 1) := by decide +kernel
theorem dX7_lastsOf_1 : decode cX7_lastsOf 1 = .ok (.istore_n 2, 1) := by decide +kernel
theorem dX7_lastsOf_2 : decode cX7_lastsOf 2 = .ok (.iload_n 2, 1) := by decide +kernel
theorem dX7_lastsOf_3 : decode cX7_lastsOf 3 = .ok (.bipush 60, 2) := by decide +kernel
theorem dX7_lastsOf_5 : decode cX7_lastsOf 5 = .ok (.if_icmp .gt 20, 3) := by decide +kernel
theorem dX7_lastsOf_8 : decode cX7_lastsOf 8 = .ok (.aload_n 0, 1) := by decide +kernel
theorem dX7_lastsOf_9 : decode cX7_lastsOf 9 = .ok (.iload_n 1, 1) := by decide +kernel
theorem dX7_lastsOf_10 : decode cX7_lastsOf 10 = .ok (.iload_n 2, 1) := by decide +kernel
theorem dX7_lastsOf_11 : decode cX7_lastsOf 11 = .ok (.invokevirtual 143, 3) := by decide +kernel
theorem dX7_lastsOf_14 : decode cX7_lastsOf 14 = .ok (.ifCond .ne 5, 3) := by decide +kernel
theorem dX7_lastsOf_17 : decode cX7_lastsOf 17 = .ok (.iload_n 2, 1) := by decide +kernel
theorem dX7_lastsOf_18 : decode cX7_lastsOf 18 = .ok (.ireturn, 1) := by decide +kernel
theorem dX7_lastsOf_19 : decode cX7_lastsOf 19 = .ok (.iinc 2 1, 3) := by decide +kernel
theorem dX7_lastsOf_22 : decode cX7_lastsOf 22 = .ok (.goto (-20), 3) := by decide +kernel
theorem dX7_lastsOf_25 : decode cX7_lastsOf 25 = .ok (.bipush (-9), 2) := by decide +kernel
theorem dX7_lastsOf_27 : decode cX7_lastsOf 27 = .ok (.ireturn, 1) := by decide +kernel
set_option maxRecDepth 20000 in
theorem ggX7_room_X7_isRoom : GoodIn wsX7_room wsX7_isRoom := goodIn_r _ [7, 8, 9, 10, 6, 11, 30, 31, 32, 33, 34, 35, 36, 37, 38, 39, 40, 41, 42, 43, 44, 45, 46, 47, 48, 49, 50, 51, 52, 53, 54] (by decide +kernel) (by decide +kernel)
set_option maxRecDepth 20000 in
theorem gX7_room_X7_isRoom : GoodIn wsX7_room (wsV RX7 146 RX7 yX7_isRoom wsX7_isRoom) := goodIn_app (goodIn_of _ (by decide +kernel)) ggX7_room_X7_isRoom
set_option maxRecDepth 20000 in
theorem ggX7_room_X7_in : GoodIn wsX7_room wsX7_in := goodIn_r _ [11] (by decide +kernel) (by decide +kernel)
set_option maxRecDepth 20000 in
theorem gX7_room_X7_in : GoodIn wsX7_room (va_wsS RX7 63 yX7_in wsX7_in) := goodIn_app (goodIn_of _ (by decide +kernel)) ggX7_room_X7_in
set_option maxRecDepth 20000 in
theorem ggX7_room_X7_ageOf : GoodIn wsX7_room wsX7_ageOf := goodIn_r _ [15, 16, 17, 18, 6, 19, 8, 2, 20, 21, 22, 23, 24, 25, 26, 27, 28, 29, 30, 31, 32, 33, 34, 35, 36, 37, 38, 39, 40, 41, 42, 43, 44, 45, 46, 47, 48, 49, 50, 51, 52, 53, 54] (by decide +kernel) (by decide +kernel)
set_option maxRecDepth 20000 in
theorem gX7_room_X7_ageOf : GoodIn wsX7_room (wsV RX7 149 RX7 yX7_ageOf wsX7_ageOf) := goodIn_app (goodIn_of _ (by decide +kernel)) ggX7_room_X7_ageOf
set_option maxRecDepth 20000 in
theorem ggX7_room_X7_joinedWith : GoodIn wsX7_room wsX7_joinedWith := goodIn_r _ [19, 8, 2, 30, 31, 32, 33, 34, 35, 36, 37, 38, 39, 40, 41, 42, 43, 44, 45, 46, 47, 48, 49, 50, 51, 52, 53, 54] (by decide +kernel) (by decide +kernel)
set_option maxRecDepth 20000 in
theorem gX7_room_X7_joinedWith : GoodIn wsX7_room (wsV RX7 131 RX7 yX7_joinedWith wsX7_joinedWith) := goodIn_app (goodIn_of _ (by decide +kernel)) ggX7_room_X7_joinedWith
theorem dX7_room_0 : decode cX7_room 0 = .ok (.aload_n 0, 1) := by decide +kernel
theorem dX7_room_1 : decode cX7_room 1 = .ok (.iconst 0, 1) := by decide +kernel
theorem dX7_room_2 : decode cX7_room 2 = .ok (.putfield 59, 3) := by decide +kernel
theorem dX7_room_5 : decode cX7_room 5 = .ok (.aload_n 0, 1) := by decide +kernel
theorem dX7_room_6 : decode cX7_room 6 = .ok (.iload_n 1, 1) := by decide +kernel
theorem dX7_room_7 : decode cX7_room 7 = .ok (.invokevirtual 146, 3) := by decide +kernel
theorem dX7_room_10 : decode cX7_room 10 = .ok (.ifCond .eq 12, 3) := by decide +kernel
theorem dX7_room_13 : decode cX7_room 13 = .ok (.iload_n 2, 1) := by decide +kernel
theorem dX7_room_14 : decode cX7_room 14 = .ok (.iconst 0, 1) := by decide +kernel
theorem dX7_room_15 : decode cX7_room 15 = .ok (.iconst 2, 1) := by decide +kernel
theorem dX7_room_16 : decode cX7_room 16 = .ok (.invokestatic 63, 3) := by decide +kernel
theorem dX7_room_19 : decode cX7_room 19 = .ok (.ifCond .ne 5, 3) := by decide +kernel
theorem dX7_room_22 : decode cX7_room 22 = .ok (.iconst (-1), 1) := by decide +kernel
theorem dX7_room_23 : decode cX7_room 23 = .ok (.ireturn, 1) := by decide +kernel
theorem dX7_room_24 : decode cX7_room 24 = .ok (.iload_n 2, 1) := by decide +kernel
theorem dX7_room_25 : decode cX7_room 25 = .ok (.ifCond .ne 14, 3) := by decide +kernel
theorem dX7_room_28 : decode cX7_room 28 = .ok (.aload_n 0, 1) := by decide +kernel
theorem dX7_room_29 : decode cX7_room 29 = .ok (.getfield 25, 3) := by decide +kernel
theorem dX7_room_32 : decode cX7_room 32 = .ok (.iconst 1, 1) := by decide +kernel
theorem dX7_room_33 : decode cX7_room 33 = .ok (.iload_n 1, 1) := by decide +kernel
theorem dX7_room_34 : decode cX7_room 34 = .ok (.iadd, 1) := by decide +kernel
theorem dX7_room_35 : decode cX7_room 35 = .ok (.iaload, 1) := by decide +kernel
theorem dX7_room_36 : decode cX7_room 36 = .ok (.goto 21, 3) := by decide +kernel
theorem dX7_room_39 : decode cX7_room 39 = .ok (.iload_n 2, 1) := by decide +kernel
theorem dX7_room_40 : decode cX7_room 40 = .ok (.iconst 1, 1) := by decide +kernel
theorem dX7_room_41 : decode cX7_room 41 = .ok (.if_icmp .ne 11, 3) := by decide +kernel
theorem dX7_room_44 : decode cX7_room 44 = .ok (.aload_n 0, 1) := by decide +kernel
theorem dX7_room_45 : decode cX7_room 45 = .ok (.iload_n 1, 1) := by decide +kernel
theorem dX7_room_46 : decode cX7_room 46 = .ok (.invokevirtual 149, 3) := by decide +kernel
theorem dX7_room_49 : decode cX7_room 49 = .ok (.goto 8, 3) := by decide +kernel
theorem dX7_room_52 : decode cX7_room 52 = .ok (.aload_n 0, 1) := by decide +kernel
theorem dX7_room_53 : decode cX7_room 53 = .ok (.iload_n 1, 1) := by decide +kernel
theorem dX7_room_54 : decode cX7_room 54 = .ok (.invokevirtual 131, 3) := by decide +kernel
theorem dX7_room_57 : decode cX7_room 57 = .ok (.ireturn, 1) := by decide +kernel
set_option maxRecDepth 20000 in
theorem ggX7_child_X7_isChild : GoodIn wsX7_child wsX7_isChild := goodIn_r _ [7, 8, 9, 10, 6, 11, 25, 26, 27, 28, 29, 30, 31, 32, 33, 34, 35, 36, 37, 38, 39, 40, 41, 42, 43, 44, 45, 46, 47, 48, 49] (by decide +kernel) (by decide +kernel)
set_option maxRecDepth 20000 in
theorem gX7_child_X7_isChild : GoodIn wsX7_child (wsV RX7 152 RX7 yX7_isChild wsX7_isChild) := goodIn_app (goodIn_of _ (by decide +kernel)) ggX7_child_X7_isChild
set_option maxRecDepth 20000 in
theorem ggX7_child_X7_in : GoodIn wsX7_child wsX7_in := goodIn_r _ [11] (by decide +kernel) (by decide +kernel)
set_option maxRecDepth 20000 in
theorem gX7_child_X7_in : GoodIn wsX7_child (va_wsS RX7 63 yX7_in wsX7_in) := goodIn_app (goodIn_of _ (by decide +kernel)) ggX7_child_X7_in
set_option maxRecDepth 20000 in
theorem ggX7_child_X7_worksOf : GoodIn wsX7_child wsX7_worksOf := goodIn_r _ [15, 2, 16, 17, 6, 18, 19, 20, 21, 22, 8, 23, 24, 9, 10, 11, 25, 26, 27, 28, 29, 30, 31, 32, 33, 34, 35, 36, 37, 38, 39, 40, 41, 42, 43, 44, 45, 46, 47, 48, 49] (by decide +kernel) (by decide +kernel)
set_option maxRecDepth 20000 in
theorem gX7_child_X7_worksOf : GoodIn wsX7_child (wsV RX7 140 RX7 yX7_worksOf wsX7_worksOf) := goodIn_app (goodIn_of _ (by decide +kernel)) ggX7_child_X7_worksOf
set_option maxRecDepth 20000 in
theorem ggX7_child_X7_has : GoodIn wsX7_child wsX7_has := goodIn_r _ [18] (by decide +kernel) (by decide +kernel)
set_option maxRecDepth 20000 in
theorem gX7_child_X7_has : GoodIn wsX7_child (va_wsS RX7 124 yX7_has wsX7_has) := goodIn_app (goodIn_of _ (by decide +kernel)) ggX7_child_X7_has
theorem dX7_child_0 : decode cX7_child 0 = .ok (.aload_n 0, 1) := by decide +kernel
theorem dX7_child_1 : decode cX7_child 1 = .ok (.iconst 0, 1) := by decide +kernel
theorem dX7_child_2 : decode cX7_child 2 = .ok (.putfield 59, 3) := by decide +kernel
theorem dX7_child_5 : decode cX7_child 5 = .ok (.aload_n 0, 1) := by decide +kernel
theorem dX7_child_6 : decode cX7_child 6 = .ok (.iload_n 1, 1) := by decide +kernel
theorem dX7_child_7 : decode cX7_child 7 = .ok (.invokevirtual 152, 3) := by decide +kernel
theorem dX7_child_10 : decode cX7_child 10 = .ok (.ifCond .eq 12, 3) := by decide +kernel
theorem dX7_child_13 : decode cX7_child 13 = .ok (.iload_n 2, 1) := by decide +kernel
theorem dX7_child_14 : decode cX7_child 14 = .ok (.iconst 0, 1) := by decide +kernel
theorem dX7_child_15 : decode cX7_child 15 = .ok (.iconst 3, 1) := by decide +kernel
theorem dX7_child_16 : decode cX7_child 16 = .ok (.invokestatic 63, 3) := by decide +kernel
theorem dX7_child_19 : decode cX7_child 19 = .ok (.ifCond .ne 5, 3) := by decide +kernel
theorem dX7_child_22 : decode cX7_child 22 = .ok (.iconst (-1), 1) := by decide +kernel
theorem dX7_child_23 : decode cX7_child 23 = .ok (.ireturn, 1) := by decide +kernel
theorem dX7_child_24 : decode cX7_child 24 = .ok (.iload_n 2, 1) := by decide +kernel
theorem dX7_child_25 : decode cX7_child 25 = .ok (.iconst 2, 1) := by decide +kernel
theorem dX7_child_26 : decode cX7_child 26 = .ok (.if_icmp .ge 29, 3) := by decide +kernel
theorem dX7_child_29 : decode cX7_child 29 = .ok (.iload_n 2, 1) := by decide +kernel
theorem dX7_child_30 : decode cX7_child 30 = .ok (.ifCond .ne 13, 3) := by decide +kernel
theorem dX7_child_33 : decode cX7_child 33 = .ok (.aload_n 0, 1) := by decide +kernel
theorem dX7_child_34 : decode cX7_child 34 = .ok (.getfield 25, 3) := by decide +kernel
theorem dX7_child_37 : decode cX7_child 37 = .ok (.bipush 13, 2) := by decide +kernel
theorem dX7_child_39 : decode cX7_child 39 = .ok (.iaload, 1) := by decide +kernel
theorem dX7_child_40 : decode cX7_child 40 = .ok (.goto 10, 3) := by decide +kernel
theorem dX7_child_43 : decode cX7_child 43 = .ok (.aload_n 0, 1) := by decide +kernel
theorem dX7_child_44 : decode cX7_child 44 = .ok (.getfield 25, 3) := by decide +kernel
theorem dX7_child_47 : decode cX7_child 47 = .ok (.bipush 14, 2) := by decide +kernel
theorem dX7_child_49 : decode cX7_child 49 = .ok (.iaload, 1) := by decide +kernel
theorem dX7_child_50 : decode cX7_child 50 = .ok (.iload_n 1, 1) := by decide +kernel
theorem dX7_child_51 : decode cX7_child 51 = .ok (.ishr, 1) := by decide +kernel
theorem dX7_child_52 : decode cX7_child 52 = .ok (.iconst 1, 1) := by decide +kernel
theorem dX7_child_53 : decode cX7_child 53 = .ok (.iand, 1) := by decide +kernel
theorem dX7_child_54 : decode cX7_child 54 = .ok (.ireturn, 1) := by decide +kernel
theorem dX7_child_55 : decode cX7_child 55 = .ok (.iload_n 2, 1) := by decide +kernel
theorem dX7_child_56 : decode cX7_child 56 = .ok (.iconst 3, 1) := by decide +kernel
theorem dX7_child_57 : decode cX7_child 57 = .ok (.if_icmp .ne 11, 3) := by decide +kernel
theorem dX7_child_60 : decode cX7_child 60 = .ok (.aload_n 0, 1) := by decide +kernel
theorem dX7_child_61 : decode cX7_child 61 = .ok (.iload_n 1, 1) := by decide +kernel
theorem dX7_child_62 : decode cX7_child 62 = .ok (.invokevirtual 140, 3) := by decide +kernel
theorem dX7_child_65 : decode cX7_child 65 = .ok (.goto 31, 3) := by decide +kernel
theorem dX7_child_68 : decode cX7_child 68 = .ok (.aload_n 0, 1) := by decide +kernel
theorem dX7_child_69 : decode cX7_child 69 = .ok (.getfield 25, 3) := by decide +kernel
theorem dX7_child_72 : decode cX7_child 72 = .ok (.bipush 14, 2) := by decide +kernel
theorem dX7_child_74 : decode cX7_child 74 = .ok (.iaload, 1) := by decide +kernel
theorem dX7_child_75 : decode cX7_child 75 = .ok (.iload_n 1, 1) := by decide +kernel
theorem dX7_child_76 : decode cX7_child 76 = .ok (.invokestatic 124, 3) := by decide +kernel
theorem dX7_child_79 : decode cX7_child 79 = .ok (.ifCond .eq 15, 3) := by decide +kernel
theorem dX7_child_82 : decode cX7_child 82 = .ok (.aload_n 0, 1) := by decide +kernel
theorem dX7_child_83 : decode cX7_child 83 = .ok (.getfield 25, 3) := by decide +kernel
theorem dX7_child_86 : decode cX7_child 86 = .ok (.bipush 15, 2) := by decide +kernel
theorem dX7_child_88 : decode cX7_child 88 = .ok (.iload_n 1, 1) := by decide +kernel
theorem dX7_child_89 : decode cX7_child 89 = .ok (.iadd, 1) := by decide +kernel
theorem dX7_child_90 : decode cX7_child 90 = .ok (.iaload, 1) := by decide +kernel
theorem dX7_child_91 : decode cX7_child 91 = .ok (.goto 5, 3) := by decide +kernel
theorem dX7_child_94 : decode cX7_child 94 = .ok (.bipush (-9), 2) := by decide +kernel
theorem dX7_child_96 : decode cX7_child 96 = .ok (.ireturn, 1) := by decide +kernel
set_option maxRecDepth 20000 in
theorem ggX7_work_X7_isWork : GoodIn wsX7_work wsX7_isWork := goodIn_r _ [8, 9, 10, 11, 7, 12, 37, 38, 39, 40, 41, 42, 43, 44, 45, 46, 47, 48, 49, 50, 51, 52, 53, 54, 55, 56, 57, 58, 59, 60, 61] (by decide +kernel) (by decide +kernel)
set_option maxRecDepth 20000 in
theorem gX7_work_X7_isWork : GoodIn wsX7_work (wsV RX7 155 RX7 yX7_isWork wsX7_isWork) := goodIn_app (goodIn_of _ (by decide +kernel)) ggX7_work_X7_isWork
set_option maxRecDepth 20000 in
theorem ggX7_work_X7_in : GoodIn wsX7_work wsX7_in := goodIn_r _ [12] (by decide +kernel) (by decide +kernel)
set_option maxRecDepth 20000 in
theorem gX7_work_X7_in : GoodIn wsX7_work (va_wsS RX7 63 yX7_in wsX7_in) := goodIn_app (goodIn_of _ (by decide +kernel)) ggX7_work_X7_in
set_option maxRecDepth 20000 in
theorem ggX7_work_X7_whoCan : GoodIn wsX7_work wsX7_whoCan := goodIn_r _ [16, 9, 17, 18, 19, 7, 20, 21, 22, 23, 24, 25, 26, 27, 28, 2, 3, 10, 11, 12, 37, 38, 39, 40, 41, 42, 43, 44, 45, 46, 47, 48, 49, 50, 51, 52, 53, 54, 55, 56, 57, 58, 59, 60, 61] (by decide +kernel) (by decide +kernel)
set_option maxRecDepth 20000 in
theorem gX7_work_X7_whoCan : GoodIn wsX7_work (wsV RX7 158 RX7 yX7_whoCan wsX7_whoCan) := goodIn_app (goodIn_of _ (by decide +kernel)) ggX7_work_X7_whoCan
set_option maxRecDepth 20000 in
theorem ggX7_work_X7_lastsOf : GoodIn wsX7_work wsX7_lastsOf := goodIn_r _ [32, 33, 34, 35, 7, 36, 9, 21, 2, 3, 22, 23, 24, 10, 11, 12, 37, 38, 39, 40, 41, 42, 43, 44, 45, 46, 47, 48, 49, 50, 51, 52, 53, 54, 55, 56, 57, 58, 59, 60, 61] (by decide +kernel) (by decide +kernel)
set_option maxRecDepth 20000 in
theorem gX7_work_X7_lastsOf : GoodIn wsX7_work (wsV RX7 161 RX7 yX7_lastsOf wsX7_lastsOf) := goodIn_app (goodIn_of _ (by decide +kernel)) ggX7_work_X7_lastsOf
theorem dX7_work_0 : decode cX7_work 0 = .ok (.aload_n 0, 1) := by decide +kernel
theorem dX7_work_1 : decode cX7_work 1 = .ok (.iconst 0, 1) := by decide +kernel
theorem dX7_work_2 : decode cX7_work 2 = .ok (.putfield 59, 3) := by decide +kernel
theorem dX7_work_5 : decode cX7_work 5 = .ok (.aload_n 0, 1) := by decide +kernel
theorem dX7_work_6 : decode cX7_work 6 = .ok (.iload_n 1, 1) := by decide +kernel
theorem dX7_work_7 : decode cX7_work 7 = .ok (.invokevirtual 155, 3) := by decide +kernel
theorem dX7_work_10 : decode cX7_work 10 = .ok (.ifCond .eq 12, 3) := by decide +kernel
theorem dX7_work_13 : decode cX7_work 13 = .ok (.iload_n 2, 1) := by decide +kernel
theorem dX7_work_14 : decode cX7_work 14 = .ok (.iconst 0, 1) := by decide +kernel
theorem dX7_work_15 : decode cX7_work 15 = .ok (.iconst 3, 1) := by decide +kernel
theorem dX7_work_16 : decode cX7_work 16 = .ok (.invokestatic 63, 3) := by decide +kernel
theorem dX7_work_19 : decode cX7_work 19 = .ok (.ifCond .ne 5, 3) := by decide +kernel
theorem dX7_work_22 : decode cX7_work 22 = .ok (.iconst (-1), 1) := by decide +kernel
theorem dX7_work_23 : decode cX7_work 23 = .ok (.ireturn, 1) := by decide +kernel
theorem dX7_work_24 : decode cX7_work 24 = .ok (.iload_n 2, 1) := by decide +kernel
theorem dX7_work_25 : decode cX7_work 25 = .ok (.ifCond .ne 12, 3) := by decide +kernel
theorem dX7_work_28 : decode cX7_work 28 = .ok (.aload_n 0, 1) := by decide +kernel
theorem dX7_work_29 : decode cX7_work 29 = .ok (.getfield 19, 3) := by decide +kernel
theorem dX7_work_32 : decode cX7_work 32 = .ok (.iload_n 1, 1) := by decide +kernel
theorem dX7_work_33 : decode cX7_work 33 = .ok (.iaload, 1) := by decide +kernel
theorem dX7_work_34 : decode cX7_work 34 = .ok (.goto 35, 3) := by decide +kernel
theorem dX7_work_37 : decode cX7_work 37 = .ok (.iload_n 2, 1) := by decide +kernel
theorem dX7_work_38 : decode cX7_work 38 = .ok (.iconst 1, 1) := by decide +kernel
theorem dX7_work_39 : decode cX7_work 39 = .ok (.if_icmp .ne 12, 3) := by decide +kernel
theorem dX7_work_42 : decode cX7_work 42 = .ok (.aload_n 0, 1) := by decide +kernel
theorem dX7_work_43 : decode cX7_work 43 = .ok (.getfield 22, 3) := by decide +kernel
theorem dX7_work_46 : decode cX7_work 46 = .ok (.iload_n 1, 1) := by decide +kernel
theorem dX7_work_47 : decode cX7_work 47 = .ok (.iaload, 1) := by decide +kernel
theorem dX7_work_48 : decode cX7_work 48 = .ok (.goto 21, 3) := by decide +kernel
theorem dX7_work_51 : decode cX7_work 51 = .ok (.iload_n 2, 1) := by decide +kernel
theorem dX7_work_52 : decode cX7_work 52 = .ok (.iconst 2, 1) := by decide +kernel
theorem dX7_work_53 : decode cX7_work 53 = .ok (.if_icmp .ne 11, 3) := by decide +kernel
theorem dX7_work_56 : decode cX7_work 56 = .ok (.aload_n 0, 1) := by decide +kernel
theorem dX7_work_57 : decode cX7_work 57 = .ok (.iload_n 1, 1) := by decide +kernel
theorem dX7_work_58 : decode cX7_work 58 = .ok (.invokevirtual 158, 3) := by decide +kernel
theorem dX7_work_61 : decode cX7_work 61 = .ok (.goto 8, 3) := by decide +kernel
theorem dX7_work_64 : decode cX7_work 64 = .ok (.aload_n 0, 1) := by decide +kernel
theorem dX7_work_65 : decode cX7_work 65 = .ok (.iload_n 1, 1) := by decide +kernel
theorem dX7_work_66 : decode cX7_work 66 = .ok (.invokevirtual 161, 3) := by decide +kernel
theorem dX7_work_69 : decode cX7_work 69 = .ok (.ireturn, 1) := by decide +kernel
set_option maxRecDepth 20000 in
theorem ggX7_asNow_X7_worksOf : GoodIn wsX7_asNow wsX7_worksOf := goodIn_r _ [7, 8, 9, 10, 6, 11, 12, 13, 14, 15, 2, 16, 17, 18, 19, 20, 21, 22, 23, 24, 25, 26, 27, 28, 29, 30, 31, 32, 33, 34, 35, 36, 37, 38, 39, 40, 41, 42, 43, 44, 45] (by decide +kernel) (by decide +kernel)
set_option maxRecDepth 20000 in
theorem gX7_asNow_X7_worksOf : GoodIn wsX7_asNow (wsV RX7 140 RX7 yX7_worksOf wsX7_worksOf) := goodIn_app (goodIn_of _ (by decide +kernel)) ggX7_asNow_X7_worksOf
theorem dX7_asNow_0 : decode cX7_asNow 0 = .ok (.iconst 0, 1) := by decide +kernel
theorem dX7_asNow_1 : decode cX7_asNow 1 = .ok (.istore_n 1, 1) := by decide +kernel
theorem dX7_asNow_2 : decode cX7_asNow 2 = .ok (.iload_n 1, 1) := by decide +kernel
theorem dX7_asNow_3 : decode cX7_asNow 3 = .ok (.bipush 6, 2) := by decide +kernel
theorem dX7_asNow_5 : decode cX7_asNow 5 = .ok (.if_icmp .ge 34, 3) := by decide +kernel
theorem dX7_asNow_8 : decode cX7_asNow 8 = .ok (.aload_n 0, 1) := by decide +kernel
theorem dX7_asNow_9 : decode cX7_asNow 9 = .ok (.getfield 44, 3) := by decide +kernel
theorem dX7_asNow_12 : decode cX7_asNow 12 = .ok (.iload_n 1, 1) := by decide +kernel
theorem dX7_asNow_13 : decode cX7_asNow 13 = .ok (.iload_n 1, 1) := by decide +kernel
theorem dX7_asNow_14 : decode cX7_asNow 14 = .ok (.aload_n 0, 1) := by decide +kernel
theorem dX7_asNow_15 : decode cX7_asNow 15 = .ok (.getfield 13, 3) := by decide +kernel
theorem dX7_asNow_18 : decode cX7_asNow 18 = .ok (.iconst 1, 1) := by decide +kernel
theorem dX7_asNow_19 : decode cX7_asNow 19 = .ok (.iaload, 1) := by decide +kernel
theorem dX7_asNow_20 : decode cX7_asNow 20 = .ok (.if_icmp .ge 11, 3) := by decide +kernel
theorem dX7_asNow_23 : decode cX7_asNow 23 = .ok (.aload_n 0, 1) := by decide +kernel
theorem dX7_asNow_24 : decode cX7_asNow 24 = .ok (.iload_n 1, 1) := by decide +kernel
theorem dX7_asNow_25 : decode cX7_asNow 25 = .ok (.invokevirtual 140, 3) := by decide +kernel
theorem dX7_asNow_28 : decode cX7_asNow 28 = .ok (.goto 4, 3) := by decide +kernel
theorem dX7_asNow_31 : decode cX7_asNow 31 = .ok (.iconst 0, 1) := by decide +kernel
theorem dX7_asNow_32 : decode cX7_asNow 32 = .ok (.iastore, 1) := by decide +kernel
theorem dX7_asNow_33 : decode cX7_asNow 33 = .ok (.iinc 1 1, 3) := by decide +kernel
theorem dX7_asNow_36 : decode cX7_asNow 36 = .ok (.goto (-34), 3) := by decide +kernel
theorem dX7_asNow_39 : decode cX7_asNow 39 = .ok (.return_, 1) := by decide +kernel
theorem dX7_sixes_0 : decode cX7_sixes 0 = .ok (.iconst 1, 1) := by decide +kernel
theorem dX7_sixes_1 : decode cX7_sixes 1 = .ok (.istore_n 2, 1) := by decide +kernel
theorem dX7_sixes_2 : decode cX7_sixes 2 = .ok (.iconst 0, 1) := by decide +kernel
theorem dX7_sixes_3 : decode cX7_sixes 3 = .ok (.istore_n 3, 1) := by decide +kernel
theorem dX7_sixes_4 : decode cX7_sixes 4 = .ok (.iload_n 3, 1) := by decide +kernel
theorem dX7_sixes_5 : decode cX7_sixes 5 = .ok (.iload_n 1, 1) := by decide +kernel
theorem dX7_sixes_6 : decode cX7_sixes 6 = .ok (.if_icmp .ge 14, 3) := by decide +kernel
theorem dX7_sixes_9 : decode cX7_sixes 9 = .ok (.iload_n 2, 1) := by decide +kernel
theorem dX7_sixes_10 : decode cX7_sixes 10 = .ok (.bipush 6, 2) := by decide +kernel
theorem dX7_sixes_12 : decode cX7_sixes 12 = .ok (.imul, 1) := by decide +kernel
theorem dX7_sixes_13 : decode cX7_sixes 13 = .ok (.istore_n 2, 1) := by decide +kernel
theorem dX7_sixes_14 : decode cX7_sixes 14 = .ok (.iinc 3 1, 3) := by decide +kernel
theorem dX7_sixes_17 : decode cX7_sixes 17 = .ok (.goto (-13), 3) := by decide +kernel
theorem dX7_sixes_20 : decode cX7_sixes 20 = .ok (.iload_n 2, 1) := by decide +kernel
theorem dX7_sixes_21 : decode cX7_sixes 21 = .ok (.ireturn, 1) := by decide +kernel
set_option maxRecDepth 20000 in
theorem ggX7_doing_X7_has : GoodIn wsX7_doing wsX7_has := goodIn_r _ [7] (by decide +kernel) (by decide +kernel)
set_option maxRecDepth 20000 in
theorem gX7_doing_X7_has : GoodIn wsX7_doing (va_wsS RX7 124 yX7_has wsX7_has) := goodIn_app (goodIn_of _ (by decide +kernel)) ggX7_doing_X7_has
theorem dX7_doing_0 : decode cX7_doing 0 = .ok (.iload_n 1, 1) := by decide +kernel
theorem dX7_doing_1 : decode cX7_doing 1 = .ok (.istore_n 2, 1) := by decide +kernel
theorem dX7_doing_2 : decode cX7_doing 2 = .ok (.iconst 0, 1) := by decide +kernel
theorem dX7_doing_3 : decode cX7_doing 3 = .ok (.istore_n 3, 1) := by decide +kernel
theorem dX7_doing_4 : decode cX7_doing 4 = .ok (.iconst 0, 1) := by decide +kernel
theorem dX7_doing_5 : decode cX7_doing 5 = .ok (.istore 4, 2) := by decide +kernel
theorem dX7_doing_7 : decode cX7_doing 7 = .ok (.aload_n 0, 1) := by decide +kernel
theorem dX7_doing_8 : decode cX7_doing 8 = .ok (.getfield 13, 3) := by decide +kernel
theorem dX7_doing_11 : decode cX7_doing 11 = .ok (.iconst 1, 1) := by decide +kernel
theorem dX7_doing_12 : decode cX7_doing 12 = .ok (.iaload, 1) := by decide +kernel
theorem dX7_doing_13 : decode cX7_doing 13 = .ok (.iconst 1, 1) := by decide +kernel
theorem dX7_doing_14 : decode cX7_doing 14 = .ok (.isub, 1) := by decide +kernel
theorem dX7_doing_15 : decode cX7_doing 15 = .ok (.istore 5, 2) := by decide +kernel
theorem dX7_doing_17 : decode cX7_doing 17 = .ok (.iload 5, 2) := by decide +kernel
theorem dX7_doing_19 : decode cX7_doing 19 = .ok (.ifCond .lt 75, 3) := by decide +kernel
theorem dX7_doing_22 : decode cX7_doing 22 = .ok (.iload_n 2, 1) := by decide +kernel
theorem dX7_doing_23 : decode cX7_doing 23 = .ok (.bipush 6, 2) := by decide +kernel
theorem dX7_doing_25 : decode cX7_doing 25 = .ok (.irem, 1) := by decide +kernel
theorem dX7_doing_26 : decode cX7_doing 26 = .ok (.istore 6, 2) := by decide +kernel
theorem dX7_doing_28 : decode cX7_doing 28 = .ok (.iload_n 2, 1) := by decide +kernel
theorem dX7_doing_29 : decode cX7_doing 29 = .ok (.bipush 6, 2) := by decide +kernel
theorem dX7_doing_31 : decode cX7_doing 31 = .ok (.idiv, 1) := by decide +kernel
theorem dX7_doing_32 : decode cX7_doing 32 = .ok (.istore_n 2, 1) := by decide +kernel
theorem dX7_doing_33 : decode cX7_doing 33 = .ok (.aload_n 0, 1) := by decide +kernel
theorem dX7_doing_34 : decode cX7_doing 34 = .ok (.getfield 47, 3) := by decide +kernel
theorem dX7_doing_37 : decode cX7_doing 37 = .ok (.iload 5, 2) := by decide +kernel
theorem dX7_doing_39 : decode cX7_doing 39 = .ok (.iload 6, 2) := by decide +kernel
theorem dX7_doing_41 : decode cX7_doing 41 = .ok (.iastore, 1) := by decide +kernel
theorem dX7_doing_42 : decode cX7_doing 42 = .ok (.iload 6, 2) := by decide +kernel
theorem dX7_doing_44 : decode cX7_doing 44 = .ok (.iconst 5, 1) := by decide +kernel
theorem dX7_doing_45 : decode cX7_doing 45 = .ok (.if_icmp .ge 43, 3) := by decide +kernel
theorem dX7_doing_48 : decode cX7_doing 48 = .ok (.aload_n 0, 1) := by decide +kernel
theorem dX7_doing_49 : decode cX7_doing 49 = .ok (.getfield 44, 3) := by decide +kernel
theorem dX7_doing_52 : decode cX7_doing 52 = .ok (.iload 5, 2) := by decide +kernel
theorem dX7_doing_54 : decode cX7_doing 54 = .ok (.iaload, 1) := by decide +kernel
theorem dX7_doing_55 : decode cX7_doing 55 = .ok (.iload 6, 2) := by decide +kernel
theorem dX7_doing_57 : decode cX7_doing 57 = .ok (.invokestatic 124, 3) := by decide +kernel
theorem dX7_doing_60 : decode cX7_doing 60 = .ok (.ifCond .eq 13, 3) := by decide +kernel
theorem dX7_doing_63 : decode cX7_doing 63 = .ok (.iload 4, 2) := by decide +kernel
theorem dX7_doing_65 : decode cX7_doing 65 = .ok (.iload 6, 2) := by decide +kernel
theorem dX7_doing_67 : decode cX7_doing 67 = .ok (.invokestatic 124, 3) := by decide +kernel
theorem dX7_doing_70 : decode cX7_doing 70 = .ok (.ifCond .eq 6, 3) := by decide +kernel
theorem dX7_doing_73 : decode cX7_doing 73 = .ok (.bipush (-9), 2) := by decide +kernel
theorem dX7_doing_75 : decode cX7_doing 75 = .ok (.ireturn, 1) := by decide +kernel
theorem dX7_doing_76 : decode cX7_doing 76 = .ok (.iload 4, 2) := by decide +kernel
theorem dX7_doing_78 : decode cX7_doing 78 = .ok (.iconst 1, 1) := by decide +kernel
theorem dX7_doing_79 : decode cX7_doing 79 = .ok (.iload 6, 2) := by decide +kernel
theorem dX7_doing_81 : decode cX7_doing 81 = .ok (.ishl, 1) := by decide +kernel
theorem dX7_doing_82 : decode cX7_doing 82 = .ok (.ior, 1) := by decide +kernel
theorem dX7_doing_83 : decode cX7_doing 83 = .ok (.istore 4, 2) := by decide +kernel
theorem dX7_doing_85 : decode cX7_doing 85 = .ok (.iinc 3 1, 3) := by decide +kernel
theorem dX7_doing_88 : decode cX7_doing 88 = .ok (.iinc 5 (-1), 3) := by decide +kernel
theorem dX7_doing_91 : decode cX7_doing 91 = .ok (.goto (-74), 3) := by decide +kernel
theorem dX7_doing_94 : decode cX7_doing 94 = .ok (.iload_n 3, 1) := by decide +kernel
theorem dX7_doing_95 : decode cX7_doing 95 = .ok (.ireturn, 1) := by decide +kernel
set_option maxRecDepth 20000 in
theorem ggX7_filled_X7_sixes : GoodIn wsX7_filled wsX7_sixes := goodIn_r _ [8] (by decide +kernel) (by decide +kernel)
set_option maxRecDepth 20000 in
theorem gX7_filled_X7_sixes : GoodIn wsX7_filled (wsV RX7 164 RX7 yX7_sixes wsX7_sixes) := goodIn_app (goodIn_of _ (by decide +kernel)) ggX7_filled_X7_sixes
set_option maxRecDepth 20000 in
theorem ggX7_filled_X7_doing : GoodIn wsX7_filled wsX7_doing := goodIn_r _ [12, 1, 3, 13, 14, 15, 7, 16, 17, 18, 19, 20, 21, 22, 23, 24, 25, 26, 27, 28, 29, 30, 31, 32, 33, 34, 35, 36, 37, 38, 39, 40, 41] (by decide +kernel) (by decide +kernel)
set_option maxRecDepth 20000 in
theorem gX7_filled_X7_doing : GoodIn wsX7_filled (wsV RX7 167 RX7 yX7_doing wsX7_doing) := goodIn_app (goodIn_of _ (by decide +kernel)) ggX7_filled_X7_doing
theorem dX7_filled_0 : decode cX7_filled 0 = .ok (.iconst (-1), 1) := by decide +kernel
theorem dX7_filled_1 : decode cX7_filled 1 = .ok (.istore_n 1, 1) := by decide +kernel
theorem dX7_filled_2 : decode cX7_filled 2 = .ok (.aload_n 0, 1) := by decide +kernel
theorem dX7_filled_3 : decode cX7_filled 3 = .ok (.aload_n 0, 1) := by decide +kernel
theorem dX7_filled_4 : decode cX7_filled 4 = .ok (.getfield 13, 3) := by decide +kernel
theorem dX7_filled_7 : decode cX7_filled 7 = .ok (.iconst 1, 1) := by decide +kernel
theorem dX7_filled_8 : decode cX7_filled 8 = .ok (.iaload, 1) := by decide +kernel
theorem dX7_filled_9 : decode cX7_filled 9 = .ok (.invokevirtual 164, 3) := by decide +kernel
theorem dX7_filled_12 : decode cX7_filled 12 = .ok (.istore_n 2, 1) := by decide +kernel
theorem dX7_filled_13 : decode cX7_filled 13 = .ok (.iconst 0, 1) := by decide +kernel
theorem dX7_filled_14 : decode cX7_filled 14 = .ok (.istore_n 3, 1) := by decide +kernel
theorem dX7_filled_15 : decode cX7_filled 15 = .ok (.iload_n 3, 1) := by decide +kernel
theorem dX7_filled_16 : decode cX7_filled 16 = .ok (.iload_n 2, 1) := by decide +kernel
theorem dX7_filled_17 : decode cX7_filled 17 = .ok (.if_icmp .ge 55, 3) := by decide +kernel
theorem dX7_filled_20 : decode cX7_filled 20 = .ok (.aload_n 0, 1) := by decide +kernel
theorem dX7_filled_21 : decode cX7_filled 21 = .ok (.iload_n 3, 1) := by decide +kernel
theorem dX7_filled_22 : decode cX7_filled 22 = .ok (.invokevirtual 167, 3) := by decide +kernel
theorem dX7_filled_25 : decode cX7_filled 25 = .ok (.istore 4, 2) := by decide +kernel
theorem dX7_filled_27 : decode cX7_filled 27 = .ok (.iload 4, 2) := by decide +kernel
theorem dX7_filled_29 : decode cX7_filled 29 = .ok (.iload_n 1, 1) := by decide +kernel
theorem dX7_filled_30 : decode cX7_filled 30 = .ok (.if_icmp .le 36, 3) := by decide +kernel
theorem dX7_filled_33 : decode cX7_filled 33 = .ok (.iload 4, 2) := by decide +kernel
theorem dX7_filled_35 : decode cX7_filled 35 = .ok (.istore_n 1, 1) := by decide +kernel
theorem dX7_filled_36 : decode cX7_filled 36 = .ok (.iconst 0, 1) := by decide +kernel
theorem dX7_filled_37 : decode cX7_filled 37 = .ok (.istore 5, 2) := by decide +kernel
theorem dX7_filled_39 : decode cX7_filled 39 = .ok (.iload 5, 2) := by decide +kernel
theorem dX7_filled_41 : decode cX7_filled 41 = .ok (.bipush 6, 2) := by decide +kernel
theorem dX7_filled_43 : decode cX7_filled 43 = .ok (.if_icmp .ge 23, 3) := by decide +kernel
theorem dX7_filled_46 : decode cX7_filled 46 = .ok (.aload_n 0, 1) := by decide +kernel
theorem dX7_filled_47 : decode cX7_filled 47 = .ok (.getfield 50, 3) := by decide +kernel
theorem dX7_filled_50 : decode cX7_filled 50 = .ok (.iload 5, 2) := by decide +kernel
theorem dX7_filled_52 : decode cX7_filled 52 = .ok (.aload_n 0, 1) := by decide +kernel
theorem dX7_filled_53 : decode cX7_filled 53 = .ok (.getfield 47, 3) := by decide +kernel
theorem dX7_filled_56 : decode cX7_filled 56 = .ok (.iload 5, 2) := by decide +kernel
theorem dX7_filled_58 : decode cX7_filled 58 = .ok (.iaload, 1) := by decide +kernel
theorem dX7_filled_59 : decode cX7_filled 59 = .ok (.iastore, 1) := by decide +kernel
theorem dX7_filled_60 : decode cX7_filled 60 = .ok (.iinc 5 1, 3) := by decide +kernel
theorem dX7_filled_63 : decode cX7_filled 63 = .ok (.goto (-24), 3) := by decide +kernel
theorem dX7_filled_66 : decode cX7_filled 66 = .ok (.iinc 3 1, 3) := by decide +kernel
theorem dX7_filled_69 : decode cX7_filled 69 = .ok (.goto (-54), 3) := by decide +kernel
theorem dX7_filled_72 : decode cX7_filled 72 = .ok (.iload_n 1, 1) := by decide +kernel
theorem dX7_filled_73 : decode cX7_filled 73 = .ok (.ireturn, 1) := by decide +kernel
set_option maxRecDepth 20000 in
theorem ggX7_now_X7_in : GoodIn wsX7_now wsX7_in := goodIn_r _ [7] (by decide +kernel) (by decide +kernel)
set_option maxRecDepth 20000 in
theorem gX7_now_X7_in : GoodIn wsX7_now (va_wsS RX7 63 yX7_in wsX7_in) := goodIn_app (goodIn_of _ (by decide +kernel)) ggX7_now_X7_in
set_option maxRecDepth 20000 in
theorem ggX7_now_X7_asNow : GoodIn wsX7_now wsX7_asNow := goodIn_r _ [11, 12, 13, 14, 15, 16, 6, 17, 2, 18, 19, 20, 21, 22, 23, 24, 25, 26, 4, 5, 7, 41, 42, 43, 44, 45, 46, 47, 48, 49, 50, 51, 52, 53, 54, 55, 56, 57, 58, 59, 60, 61, 62, 63, 64, 65] (by decide +kernel) (by decide +kernel)
set_option maxRecDepth 20000 in
theorem gX7_now_X7_asNow : GoodIn wsX7_now (wsV RX7 170 RX7 yX7_asNow wsX7_asNow) := goodIn_app (goodIn_of _ (by decide +kernel)) ggX7_now_X7_asNow
set_option maxRecDepth 20000 in
theorem ggX7_now_X7_filled : GoodIn wsX7_now wsX7_filled := goodIn_r _ [30, 13, 31, 32, 33, 34, 35, 6, 36, 37, 38, 39, 40, 12, 18, 19, 20, 41, 42, 43, 44, 45, 46, 47, 48, 49, 50, 51, 52, 53, 54, 55, 56, 57, 58, 59, 60, 61, 62, 63, 64, 65] (by decide +kernel) (by decide +kernel)
set_option maxRecDepth 20000 in
theorem gX7_now_X7_filled : GoodIn wsX7_now (wsV RX7 173 RX7 yX7_filled wsX7_filled) := goodIn_app (goodIn_of _ (by decide +kernel)) ggX7_now_X7_filled
theorem dX7_now_0 : decode cX7_now 0 = .ok (.aload_n 0, 1) := by decide +kernel
theorem dX7_now_1 : decode cX7_now 1 = .ok (.iconst 0, 1) := by decide +kernel
theorem dX7_now_2 : decode cX7_now 2 = .ok (.putfield 59, 3) := by decide +kernel
theorem dX7_now_5 : decode cX7_now 5 = .ok (.iload_n 1, 1) := by decide +kernel
theorem dX7_now_6 : decode cX7_now 6 = .ok (.iconst 0, 1) := by decide +kernel
theorem dX7_now_7 : decode cX7_now 7 = .ok (.iconst 4, 1) := by decide +kernel
theorem dX7_now_8 : decode cX7_now 8 = .ok (.invokestatic 63, 3) := by decide +kernel
theorem dX7_now_11 : decode cX7_now 11 = .ok (.ifCond .ne 5, 3) := by decide +kernel
theorem dX7_now_14 : decode cX7_now 14 = .ok (.iconst (-1), 1) := by decide +kernel
theorem dX7_now_15 : decode cX7_now 15 = .ok (.ireturn, 1) := by decide +kernel
theorem dX7_now_16 : decode cX7_now 16 = .ok (.iload_n 1, 1) := by decide +kernel
theorem dX7_now_17 : decode cX7_now 17 = .ok (.iconst 3, 1) := by decide +kernel
theorem dX7_now_18 : decode cX7_now 18 = .ok (.if_icmp .ge 39, 3) := by decide +kernel
theorem dX7_now_21 : decode cX7_now 21 = .ok (.iload_n 1, 1) := by decide +kernel
theorem dX7_now_22 : decode cX7_now 22 = .ok (.ifCond .ne 12, 3) := by decide +kernel
theorem dX7_now_25 : decode cX7_now 25 = .ok (.aload_n 0, 1) := by decide +kernel
theorem dX7_now_26 : decode cX7_now 26 = .ok (.getfield 25, 3) := by decide +kernel
theorem dX7_now_29 : decode cX7_now 29 = .ok (.iconst 0, 1) := by decide +kernel
theorem dX7_now_30 : decode cX7_now 30 = .ok (.iaload, 1) := by decide +kernel
theorem dX7_now_31 : decode cX7_now 31 = .ok (.goto 25, 3) := by decide +kernel
theorem dX7_now_34 : decode cX7_now 34 = .ok (.iload_n 1, 1) := by decide +kernel
theorem dX7_now_35 : decode cX7_now 35 = .ok (.iconst 1, 1) := by decide +kernel
theorem dX7_now_36 : decode cX7_now 36 = .ok (.if_icmp .ne 13, 3) := by decide +kernel
theorem dX7_now_39 : decode cX7_now 39 = .ok (.aload_n 0, 1) := by decide +kernel
theorem dX7_now_40 : decode cX7_now 40 = .ok (.getfield 25, 3) := by decide +kernel
theorem dX7_now_43 : decode cX7_now 43 = .ok (.bipush 14, 2) := by decide +kernel
theorem dX7_now_45 : decode cX7_now 45 = .ok (.iaload, 1) := by decide +kernel
theorem dX7_now_46 : decode cX7_now 46 = .ok (.goto 10, 3) := by decide +kernel
theorem dX7_now_49 : decode cX7_now 49 = .ok (.aload_n 0, 1) := by decide +kernel
theorem dX7_now_50 : decode cX7_now 50 = .ok (.getfield 25, 3) := by decide +kernel
theorem dX7_now_53 : decode cX7_now 53 = .ok (.bipush 13, 2) := by decide +kernel
theorem dX7_now_55 : decode cX7_now 55 = .ok (.iaload, 1) := by decide +kernel
theorem dX7_now_56 : decode cX7_now 56 = .ok (.ireturn, 1) := by decide +kernel
theorem dX7_now_57 : decode cX7_now 57 = .ok (.aload_n 0, 1) := by decide +kernel
theorem dX7_now_58 : decode cX7_now 58 = .ok (.invokevirtual 170, 3) := by decide +kernel
theorem dX7_now_61 : decode cX7_now 61 = .ok (.iload_n 1, 1) := by decide +kernel
theorem dX7_now_62 : decode cX7_now 62 = .ok (.iconst 3, 1) := by decide +kernel
theorem dX7_now_63 : decode cX7_now 63 = .ok (.if_icmp .ne 10, 3) := by decide +kernel
theorem dX7_now_66 : decode cX7_now 66 = .ok (.aload_n 0, 1) := by decide +kernel
theorem dX7_now_67 : decode cX7_now 67 = .ok (.invokevirtual 173, 3) := by decide +kernel
theorem dX7_now_70 : decode cX7_now 70 = .ok (.goto 7, 3) := by decide +kernel
theorem dX7_now_73 : decode cX7_now 73 = .ok (.aload_n 0, 1) := by decide +kernel
theorem dX7_now_74 : decode cX7_now 74 = .ok (.getfield 121, 3) := by decide +kernel
theorem dX7_now_77 : decode cX7_now 77 = .ok (.ireturn, 1) := by decide +kernel
theorem dX7_notes_0 : decode cX7_notes 0 = .ok (.aload_n 0, 1) := by decide +kernel
theorem dX7_notes_1 : decode cX7_notes 1 = .ok (.getfield 121, 3) := by decide +kernel
theorem dX7_notes_4 : decode cX7_notes 4 = .ok (.bipush 10, 2) := by decide +kernel
theorem dX7_notes_6 : decode cX7_notes 6 = .ok (.if_icmp .ne 39, 3) := by decide +kernel
theorem dX7_notes_9 : decode cX7_notes 9 = .ok (.iconst 0, 1) := by decide +kernel
theorem dX7_notes_10 : decode cX7_notes 10 = .ok (.istore_n 1, 1) := by decide +kernel
theorem dX7_notes_11 : decode cX7_notes 11 = .ok (.iload_n 1, 1) := by decide +kernel
theorem dX7_notes_12 : decode cX7_notes 12 = .ok (.sipush 189, 3) := by decide +kernel
theorem dX7_notes_15 : decode cX7_notes 15 = .ok (.if_icmp .ge 24, 3) := by decide +kernel
theorem dX7_notes_18 : decode cX7_notes 18 = .ok (.aload_n 0, 1) := by decide +kernel
theorem dX7_notes_19 : decode cX7_notes 19 = .ok (.getfield 35, 3) := by decide +kernel
theorem dX7_notes_22 : decode cX7_notes 22 = .ok (.iload_n 1, 1) := by decide +kernel
theorem dX7_notes_23 : decode cX7_notes 23 = .ok (.aload_n 0, 1) := by decide +kernel
theorem dX7_notes_24 : decode cX7_notes 24 = .ok (.getfield 35, 3) := by decide +kernel
theorem dX7_notes_27 : decode cX7_notes 27 = .ok (.iload_n 1, 1) := by decide +kernel
theorem dX7_notes_28 : decode cX7_notes 28 = .ok (.bipush 21, 2) := by decide +kernel
theorem dX7_notes_30 : decode cX7_notes 30 = .ok (.iadd, 1) := by decide +kernel
theorem dX7_notes_31 : decode cX7_notes 31 = .ok (.iaload, 1) := by decide +kernel
theorem dX7_notes_32 : decode cX7_notes 32 = .ok (.iastore, 1) := by decide +kernel
theorem dX7_notes_33 : decode cX7_notes 33 = .ok (.iinc 1 1, 3) := by decide +kernel
theorem dX7_notes_36 : decode cX7_notes 36 = .ok (.goto (-25), 3) := by decide +kernel
theorem dX7_notes_39 : decode cX7_notes 39 = .ok (.aload_n 0, 1) := by decide +kernel
theorem dX7_notes_40 : decode cX7_notes 40 = .ok (.bipush 9, 2) := by decide +kernel
theorem dX7_notes_42 : decode cX7_notes 42 = .ok (.putfield 121, 3) := by decide +kernel
theorem dX7_notes_45 : decode cX7_notes 45 = .ok (.iconst 0, 1) := by decide +kernel
theorem dX7_notes_46 : decode cX7_notes 46 = .ok (.istore_n 1, 1) := by decide +kernel
theorem dX7_notes_47 : decode cX7_notes 47 = .ok (.iload_n 1, 1) := by decide +kernel
theorem dX7_notes_48 : decode cX7_notes 48 = .ok (.bipush 21, 2) := by decide +kernel
theorem dX7_notes_50 : decode cX7_notes 50 = .ok (.if_icmp .ge 29, 3) := by decide +kernel
theorem dX7_notes_53 : decode cX7_notes 53 = .ok (.aload_n 0, 1) := by decide +kernel
theorem dX7_notes_54 : decode cX7_notes 54 = .ok (.getfield 35, 3) := by decide +kernel
theorem dX7_notes_57 : decode cX7_notes 57 = .ok (.bipush 21, 2) := by decide +kernel
theorem dX7_notes_59 : decode cX7_notes 59 = .ok (.aload_n 0, 1) := by decide +kernel
theorem dX7_notes_60 : decode cX7_notes 60 = .ok (.getfield 121, 3) := by decide +kernel
theorem dX7_notes_63 : decode cX7_notes 63 = .ok (.imul, 1) := by decide +kernel
theorem dX7_notes_64 : decode cX7_notes 64 = .ok (.iload_n 1, 1) := by decide +kernel
theorem dX7_notes_65 : decode cX7_notes 65 = .ok (.iadd, 1) := by decide +kernel
theorem dX7_notes_66 : decode cX7_notes 66 = .ok (.aload_n 0, 1) := by decide +kernel
theorem dX7_notes_67 : decode cX7_notes 67 = .ok (.getfield 25, 3) := by decide +kernel
theorem dX7_notes_70 : decode cX7_notes 70 = .ok (.iload_n 1, 1) := by decide +kernel
theorem dX7_notes_71 : decode cX7_notes 71 = .ok (.iaload, 1) := by decide +kernel
theorem dX7_notes_72 : decode cX7_notes 72 = .ok (.iastore, 1) := by decide +kernel
theorem dX7_notes_73 : decode cX7_notes 73 = .ok (.iinc 1 1, 3) := by decide +kernel
theorem dX7_notes_76 : decode cX7_notes 76 = .ok (.goto (-29), 3) := by decide +kernel
theorem dX7_notes_79 : decode cX7_notes 79 = .ok (.aload_n 0, 1) := by decide +kernel
theorem dX7_notes_80 : decode cX7_notes 80 = .ok (.dup, 1) := by decide +kernel
theorem dX7_notes_81 : decode cX7_notes 81 = .ok (.getfield 121, 3) := by decide +kernel
theorem dX7_notes_84 : decode cX7_notes 84 = .ok (.iconst 1, 1) := by decide +kernel
theorem dX7_notes_85 : decode cX7_notes 85 = .ok (.iadd, 1) := by decide +kernel
theorem dX7_notes_86 : decode cX7_notes 86 = .ok (.putfield 121, 3) := by decide +kernel
theorem dX7_notes_89 : decode cX7_notes 89 = .ok (.return_, 1) := by decide +kernel
set_option maxRecDepth 20000 in
theorem ggX7_bears_X7_isChild : GoodIn wsX7_bears wsX7_isChild := goodIn_r _ [8, 3, 9, 10, 7, 11, 40, 41, 42, 43, 44, 45, 46, 47, 48, 49, 50, 51, 52, 53, 54, 55, 56, 57, 58, 59, 60, 61, 62, 63, 64] (by decide +kernel) (by decide +kernel)
set_option maxRecDepth 20000 in
theorem gX7_bears_X7_isChild : GoodIn wsX7_bears (wsV RX7 152 RX7 yX7_isChild wsX7_isChild) := goodIn_app (goodIn_of _ (by decide +kernel)) ggX7_bears_X7_isChild
set_option maxRecDepth 20000 in
theorem ggX7_bears_X7_isRoom : GoodIn wsX7_bears wsX7_isRoom := goodIn_r _ [15, 3, 9, 10, 7, 11, 40, 41, 42, 43, 44, 45, 46, 47, 48, 49, 50, 51, 52, 53, 54, 55, 56, 57, 58, 59, 60, 61, 62, 63, 64] (by decide +kernel) (by decide +kernel)
set_option maxRecDepth 20000 in
theorem gX7_bears_X7_isRoom : GoodIn wsX7_bears (wsV RX7 146 RX7 yX7_isRoom wsX7_isRoom) := goodIn_app (goodIn_of _ (by decide +kernel)) ggX7_bears_X7_isRoom
set_option maxRecDepth 20000 in
theorem ggX7_bears_X7_has : GoodIn wsX7_bears wsX7_has := goodIn_r _ [18] (by decide +kernel) (by decide +kernel)
set_option maxRecDepth 20000 in
theorem gX7_bears_X7_has : GoodIn wsX7_bears (va_wsS RX7 124 yX7_has wsX7_has) := goodIn_app (goodIn_of _ (by decide +kernel)) ggX7_bears_X7_has
set_option maxRecDepth 20000 in
theorem ggX7_bears_X7_notes : GoodIn wsX7_bears wsX7_notes := goodIn_r _ [22, 23, 24, 2, 40, 41, 42, 43, 44, 45, 46, 47, 48, 49, 50, 51, 52, 53, 54, 55, 56, 57, 58, 59, 60, 61, 62, 63, 64] (by decide +kernel) (by decide +kernel)
set_option maxRecDepth 20000 in
theorem gX7_bears_X7_notes : GoodIn wsX7_bears (wsV RX7 177 RX7 yX7_notes wsX7_notes) := goodIn_app (goodIn_of _ (by decide +kernel)) ggX7_bears_X7_notes
set_option maxRecDepth 20000 in
theorem ggX7_bears_X7_ageOf : GoodIn wsX7_bears wsX7_ageOf := goodIn_r _ [28, 29, 30, 31, 7, 32, 3, 2, 33, 34, 35, 36, 16, 17, 18, 37, 38, 39, 40, 41, 42, 43, 44, 45, 46, 47, 48, 49, 50, 51, 52, 53, 54, 55, 56, 57, 58, 59, 60, 61, 62, 63, 64] (by decide +kernel) (by decide +kernel)
set_option maxRecDepth 20000 in
theorem gX7_bears_X7_ageOf : GoodIn wsX7_bears (wsV RX7 149 RX7 yX7_ageOf wsX7_ageOf) := goodIn_app (goodIn_of _ (by decide +kernel)) ggX7_bears_X7_ageOf
theorem dX7_bears_0 : decode cX7_bears 0 = .ok (.aload_n 0, 1) := by decide +kernel
theorem dX7_bears_1 : decode cX7_bears 1 = .ok (.iconst 0, 1) := by decide +kernel
theorem dX7_bears_2 : decode cX7_bears 2 = .ok (.putfield 59, 3) := by decide +kernel
theorem dX7_bears_5 : decode cX7_bears 5 = .ok (.aload_n 0, 1) := by decide +kernel
theorem dX7_bears_6 : decode cX7_bears 6 = .ok (.iload_n 1, 1) := by decide +kernel
theorem dX7_bears_7 : decode cX7_bears 7 = .ok (.invokevirtual 152, 3) := by decide +kernel
theorem dX7_bears_10 : decode cX7_bears 10 = .ok (.ifCond .eq 11, 3) := by decide +kernel
theorem dX7_bears_13 : decode cX7_bears 13 = .ok (.aload_n 0, 1) := by decide +kernel
theorem dX7_bears_14 : decode cX7_bears 14 = .ok (.iload_n 2, 1) := by decide +kernel
theorem dX7_bears_15 : decode cX7_bears 15 = .ok (.invokevirtual 146, 3) := by decide +kernel
theorem dX7_bears_18 : decode cX7_bears 18 = .ok (.ifCond .ne 5, 3) := by decide +kernel
theorem dX7_bears_21 : decode cX7_bears 21 = .ok (.iconst (-1), 1) := by decide +kernel
theorem dX7_bears_22 : decode cX7_bears 22 = .ok (.ireturn, 1) := by decide +kernel
theorem dX7_bears_23 : decode cX7_bears 23 = .ok (.aload_n 0, 1) := by decide +kernel
theorem dX7_bears_24 : decode cX7_bears 24 = .ok (.getfield 25, 3) := by decide +kernel
theorem dX7_bears_27 : decode cX7_bears 27 = .ok (.bipush 13, 2) := by decide +kernel
theorem dX7_bears_29 : decode cX7_bears 29 = .ok (.iaload, 1) := by decide +kernel
theorem dX7_bears_30 : decode cX7_bears 30 = .ok (.iload_n 1, 1) := by decide +kernel
theorem dX7_bears_31 : decode cX7_bears 31 = .ok (.invokestatic 124, 3) := by decide +kernel
theorem dX7_bears_34 : decode cX7_bears 34 = .ok (.ifCond .eq 6, 3) := by decide +kernel
theorem dX7_bears_37 : decode cX7_bears 37 = .ok (.bipush (-2), 2) := by decide +kernel
theorem dX7_bears_39 : decode cX7_bears 39 = .ok (.ireturn, 1) := by decide +kernel
theorem dX7_bears_40 : decode cX7_bears 40 = .ok (.aload_n 0, 1) := by decide +kernel
theorem dX7_bears_41 : decode cX7_bears 41 = .ok (.invokevirtual 177, 3) := by decide +kernel
theorem dX7_bears_44 : decode cX7_bears 44 = .ok (.aload_n 0, 1) := by decide +kernel
theorem dX7_bears_45 : decode cX7_bears 45 = .ok (.iload_n 2, 1) := by decide +kernel
theorem dX7_bears_46 : decode cX7_bears 46 = .ok (.invokevirtual 149, 3) := by decide +kernel
theorem dX7_bears_49 : decode cX7_bears 49 = .ok (.istore_n 3, 1) := by decide +kernel
theorem dX7_bears_50 : decode cX7_bears 50 = .ok (.aload_n 0, 1) := by decide +kernel
theorem dX7_bears_51 : decode cX7_bears 51 = .ok (.getfield 25, 3) := by decide +kernel
theorem dX7_bears_54 : decode cX7_bears 54 = .ok (.bipush 13, 2) := by decide +kernel
theorem dX7_bears_56 : decode cX7_bears 56 = .ok (.dup2, 1) := by decide +kernel
theorem dX7_bears_57 : decode cX7_bears 57 = .ok (.iaload, 1) := by decide +kernel
theorem dX7_bears_58 : decode cX7_bears 58 = .ok (.iconst 1, 1) := by decide +kernel
theorem dX7_bears_59 : decode cX7_bears 59 = .ok (.iload_n 1, 1) := by decide +kernel
theorem dX7_bears_60 : decode cX7_bears 60 = .ok (.ishl, 1) := by decide +kernel
theorem dX7_bears_61 : decode cX7_bears 61 = .ok (.ior, 1) := by decide +kernel
theorem dX7_bears_62 : decode cX7_bears 62 = .ok (.iastore, 1) := by decide +kernel
theorem dX7_bears_63 : decode cX7_bears 63 = .ok (.aload_n 0, 1) := by decide +kernel
theorem dX7_bears_64 : decode cX7_bears 64 = .ok (.getfield 25, 3) := by decide +kernel
theorem dX7_bears_67 : decode cX7_bears 67 = .ok (.bipush 14, 2) := by decide +kernel
theorem dX7_bears_69 : decode cX7_bears 69 = .ok (.dup2, 1) := by decide +kernel
theorem dX7_bears_70 : decode cX7_bears 70 = .ok (.iaload, 1) := by decide +kernel
theorem dX7_bears_71 : decode cX7_bears 71 = .ok (.iload_n 3, 1) := by decide +kernel
theorem dX7_bears_72 : decode cX7_bears 72 = .ok (.aload_n 0, 1) := by decide +kernel
theorem dX7_bears_73 : decode cX7_bears 73 = .ok (.getfield 13, 3) := by decide +kernel
theorem dX7_bears_76 : decode cX7_bears 76 = .ok (.iconst 3, 1) := by decide +kernel
theorem dX7_bears_77 : decode cX7_bears 77 = .ok (.iaload, 1) := by decide +kernel
theorem dX7_bears_78 : decode cX7_bears 78 = .ok (.if_icmp .ge 9, 3) := by decide +kernel
theorem dX7_bears_81 : decode cX7_bears 81 = .ok (.iconst 1, 1) := by decide +kernel
theorem dX7_bears_82 : decode cX7_bears 82 = .ok (.iload_n 1, 1) := by decide +kernel
theorem dX7_bears_83 : decode cX7_bears 83 = .ok (.ishl, 1) := by decide +kernel
theorem dX7_bears_84 : decode cX7_bears 84 = .ok (.goto 4, 3) := by decide +kernel
theorem dX7_bears_87 : decode cX7_bears 87 = .ok (.iconst 0, 1) := by decide +kernel
theorem dX7_bears_88 : decode cX7_bears 88 = .ok (.ior, 1) := by decide +kernel
theorem dX7_bears_89 : decode cX7_bears 89 = .ok (.iastore, 1) := by decide +kernel
theorem dX7_bears_90 : decode cX7_bears 90 = .ok (.aload_n 0, 1) := by decide +kernel
theorem dX7_bears_91 : decode cX7_bears 91 = .ok (.getfield 25, 3) := by decide +kernel
theorem dX7_bears_94 : decode cX7_bears 94 = .ok (.bipush 15, 2) := by decide +kernel
theorem dX7_bears_96 : decode cX7_bears 96 = .ok (.iload_n 1, 1) := by decide +kernel
theorem dX7_bears_97 : decode cX7_bears 97 = .ok (.iadd, 1) := by decide +kernel
theorem dX7_bears_98 : decode cX7_bears 98 = .ok (.iload_n 3, 1) := by decide +kernel
theorem dX7_bears_99 : decode cX7_bears 99 = .ok (.iastore, 1) := by decide +kernel
theorem dX7_bears_100 : decode cX7_bears 100 = .ok (.iload_n 3, 1) := by decide +kernel
theorem dX7_bears_101 : decode cX7_bears 101 = .ok (.ireturn, 1) := by decide +kernel
set_option maxRecDepth 20000 in
theorem ggX7_year_X7_notes : GoodIn wsX7_year wsX7_notes := goodIn_r _ [8, 9, 10, 2, 14, 15, 16, 17, 18, 19, 20, 21, 22, 23, 24, 25, 26, 27, 28, 29, 30, 31, 32, 33, 34, 35, 36, 37, 38] (by decide +kernel) (by decide +kernel)
set_option maxRecDepth 20000 in
theorem gX7_year_X7_notes : GoodIn wsX7_year (wsV RX7 177 RX7 yX7_notes wsX7_notes) := goodIn_app (goodIn_of _ (by decide +kernel)) ggX7_year_X7_notes
set_option maxRecDepth 20000 in
theorem ggX7_year_X7_has : GoodIn wsX7_year wsX7_has := goodIn_r _ [13] (by decide +kernel) (by decide +kernel)
set_option maxRecDepth 20000 in
theorem gX7_year_X7_has : GoodIn wsX7_year (va_wsS RX7 124 yX7_has wsX7_has) := goodIn_app (goodIn_of _ (by decide +kernel)) ggX7_year_X7_has
theorem dX7_year_0 : decode cX7_year 0 = .ok (.aload_n 0, 1) := by decide +kernel
theorem dX7_year_1 : decode cX7_year 1 = .ok (.iconst 0, 1) := by decide +kernel
theorem dX7_year_2 : decode cX7_year 2 = .ok (.putfield 59, 3) := by decide +kernel
theorem dX7_year_5 : decode cX7_year 5 = .ok (.aload_n 0, 1) := by decide +kernel
theorem dX7_year_6 : decode cX7_year 6 = .ok (.getfield 25, 3) := by decide +kernel
theorem dX7_year_9 : decode cX7_year 9 = .ok (.iconst 0, 1) := by decide +kernel
theorem dX7_year_10 : decode cX7_year 10 = .ok (.iaload, 1) := by decide +kernel
theorem dX7_year_11 : decode cX7_year 11 = .ok (.bipush 99, 2) := by decide +kernel
theorem dX7_year_13 : decode cX7_year 13 = .ok (.if_icmp .ne 6, 3) := by decide +kernel
theorem dX7_year_16 : decode cX7_year 16 = .ok (.bipush (-2), 2) := by decide +kernel
theorem dX7_year_18 : decode cX7_year 18 = .ok (.ireturn, 1) := by decide +kernel
theorem dX7_year_19 : decode cX7_year 19 = .ok (.aload_n 0, 1) := by decide +kernel
theorem dX7_year_20 : decode cX7_year 20 = .ok (.invokevirtual 177, 3) := by decide +kernel
theorem dX7_year_23 : decode cX7_year 23 = .ok (.aload_n 0, 1) := by decide +kernel
theorem dX7_year_24 : decode cX7_year 24 = .ok (.getfield 25, 3) := by decide +kernel
theorem dX7_year_27 : decode cX7_year 27 = .ok (.iconst 0, 1) := by decide +kernel
theorem dX7_year_28 : decode cX7_year 28 = .ok (.dup2, 1) := by decide +kernel
theorem dX7_year_29 : decode cX7_year 29 = .ok (.iaload, 1) := by decide +kernel
theorem dX7_year_30 : decode cX7_year 30 = .ok (.iconst 1, 1) := by decide +kernel
theorem dX7_year_31 : decode cX7_year 31 = .ok (.iadd, 1) := by decide +kernel
theorem dX7_year_32 : decode cX7_year 32 = .ok (.iastore, 1) := by decide +kernel
theorem dX7_year_33 : decode cX7_year 33 = .ok (.iconst 0, 1) := by decide +kernel
theorem dX7_year_34 : decode cX7_year 34 = .ok (.istore_n 1, 1) := by decide +kernel
theorem dX7_year_35 : decode cX7_year 35 = .ok (.iload_n 1, 1) := by decide +kernel
theorem dX7_year_36 : decode cX7_year 36 = .ok (.aload_n 0, 1) := by decide +kernel
theorem dX7_year_37 : decode cX7_year 37 = .ok (.getfield 13, 3) := by decide +kernel
theorem dX7_year_40 : decode cX7_year 40 = .ok (.iconst 0, 1) := by decide +kernel
theorem dX7_year_41 : decode cX7_year 41 = .ok (.iaload, 1) := by decide +kernel
theorem dX7_year_42 : decode cX7_year 42 = .ok (.if_icmp .ge 21, 3) := by decide +kernel
theorem dX7_year_45 : decode cX7_year 45 = .ok (.aload_n 0, 1) := by decide +kernel
theorem dX7_year_46 : decode cX7_year 46 = .ok (.getfield 25, 3) := by decide +kernel
theorem dX7_year_49 : decode cX7_year 49 = .ok (.iconst 1, 1) := by decide +kernel
theorem dX7_year_50 : decode cX7_year 50 = .ok (.iload_n 1, 1) := by decide +kernel
theorem dX7_year_51 : decode cX7_year 51 = .ok (.iadd, 1) := by decide +kernel
theorem dX7_year_52 : decode cX7_year 52 = .ok (.dup2, 1) := by decide +kernel
theorem dX7_year_53 : decode cX7_year 53 = .ok (.iaload, 1) := by decide +kernel
theorem dX7_year_54 : decode cX7_year 54 = .ok (.iconst 1, 1) := by decide +kernel
theorem dX7_year_55 : decode cX7_year 55 = .ok (.iadd, 1) := by decide +kernel
theorem dX7_year_56 : decode cX7_year 56 = .ok (.iastore, 1) := by decide +kernel
theorem dX7_year_57 : decode cX7_year 57 = .ok (.iinc 1 1, 3) := by decide +kernel
theorem dX7_year_60 : decode cX7_year 60 = .ok (.goto (-25), 3) := by decide +kernel
theorem dX7_year_63 : decode cX7_year 63 = .ok (.iconst 0, 1) := by decide +kernel
theorem dX7_year_64 : decode cX7_year 64 = .ok (.istore_n 1, 1) := by decide +kernel
theorem dX7_year_65 : decode cX7_year 65 = .ok (.iconst 0, 1) := by decide +kernel
theorem dX7_year_66 : decode cX7_year 66 = .ok (.istore_n 2, 1) := by decide +kernel
theorem dX7_year_67 : decode cX7_year 67 = .ok (.iload_n 2, 1) := by decide +kernel
theorem dX7_year_68 : decode cX7_year 68 = .ok (.aload_n 0, 1) := by decide +kernel
theorem dX7_year_69 : decode cX7_year 69 = .ok (.getfield 13, 3) := by decide +kernel
theorem dX7_year_72 : decode cX7_year 72 = .ok (.iconst 1, 1) := by decide +kernel
theorem dX7_year_73 : decode cX7_year 73 = .ok (.iaload, 1) := by decide +kernel
theorem dX7_year_74 : decode cX7_year 74 = .ok (.if_icmp .ge 95, 3) := by decide +kernel
theorem dX7_year_77 : decode cX7_year 77 = .ok (.aload_n 0, 1) := by decide +kernel
theorem dX7_year_78 : decode cX7_year 78 = .ok (.getfield 25, 3) := by decide +kernel
theorem dX7_year_81 : decode cX7_year 81 = .ok (.bipush 14, 2) := by decide +kernel
theorem dX7_year_83 : decode cX7_year 83 = .ok (.iaload, 1) := by decide +kernel
theorem dX7_year_84 : decode cX7_year 84 = .ok (.iload_n 2, 1) := by decide +kernel
theorem dX7_year_85 : decode cX7_year 85 = .ok (.invokestatic 124, 3) := by decide +kernel
theorem dX7_year_88 : decode cX7_year 88 = .ok (.ifCond .eq 75, 3) := by decide +kernel
theorem dX7_year_91 : decode cX7_year 91 = .ok (.aload_n 0, 1) := by decide +kernel
theorem dX7_year_92 : decode cX7_year 92 = .ok (.getfield 25, 3) := by decide +kernel
theorem dX7_year_95 : decode cX7_year 95 = .ok (.bipush 15, 2) := by decide +kernel
theorem dX7_year_97 : decode cX7_year 97 = .ok (.iload_n 2, 1) := by decide +kernel
theorem dX7_year_98 : decode cX7_year 98 = .ok (.iadd, 1) := by decide +kernel
theorem dX7_year_99 : decode cX7_year 99 = .ok (.dup2, 1) := by decide +kernel
theorem dX7_year_100 : decode cX7_year 100 = .ok (.iaload, 1) := by decide +kernel
theorem dX7_year_101 : decode cX7_year 101 = .ok (.iconst 1, 1) := by decide +kernel
theorem dX7_year_102 : decode cX7_year 102 = .ok (.iadd, 1) := by decide +kernel
theorem dX7_year_103 : decode cX7_year 103 = .ok (.iastore, 1) := by decide +kernel
theorem dX7_year_104 : decode cX7_year 104 = .ok (.aload_n 0, 1) := by decide +kernel
theorem dX7_year_105 : decode cX7_year 105 = .ok (.getfield 25, 3) := by decide +kernel
theorem dX7_year_108 : decode cX7_year 108 = .ok (.bipush 15, 2) := by decide +kernel
theorem dX7_year_110 : decode cX7_year 110 = .ok (.iload_n 2, 1) := by decide +kernel
theorem dX7_year_111 : decode cX7_year 111 = .ok (.iadd, 1) := by decide +kernel
theorem dX7_year_112 : decode cX7_year 112 = .ok (.iaload, 1) := by decide +kernel
theorem dX7_year_113 : decode cX7_year 113 = .ok (.aload_n 0, 1) := by decide +kernel
theorem dX7_year_114 : decode cX7_year 114 = .ok (.getfield 13, 3) := by decide +kernel
theorem dX7_year_117 : decode cX7_year 117 = .ok (.iconst 3, 1) := by decide +kernel
theorem dX7_year_118 : decode cX7_year 118 = .ok (.iaload, 1) := by decide +kernel
theorem dX7_year_119 : decode cX7_year 119 = .ok (.if_icmp .ne 7, 3) := by decide +kernel
theorem dX7_year_122 : decode cX7_year 122 = .ok (.iconst 1, 1) := by decide +kernel
theorem dX7_year_123 : decode cX7_year 123 = .ok (.goto 4, 3) := by decide +kernel
theorem dX7_year_126 : decode cX7_year 126 = .ok (.iconst 0, 1) := by decide +kernel
theorem dX7_year_127 : decode cX7_year 127 = .ok (.istore_n 3, 1) := by decide +kernel
theorem dX7_year_128 : decode cX7_year 128 = .ok (.aload_n 0, 1) := by decide +kernel
theorem dX7_year_129 : decode cX7_year 129 = .ok (.getfield 25, 3) := by decide +kernel
theorem dX7_year_132 : decode cX7_year 132 = .ok (.bipush 14, 2) := by decide +kernel
theorem dX7_year_134 : decode cX7_year 134 = .ok (.dup2, 1) := by decide +kernel
theorem dX7_year_135 : decode cX7_year 135 = .ok (.iaload, 1) := by decide +kernel
theorem dX7_year_136 : decode cX7_year 136 = .ok (.iload_n 3, 1) := by decide +kernel
theorem dX7_year_137 : decode cX7_year 137 = .ok (.ifCond .eq 11, 3) := by decide +kernel
theorem dX7_year_140 : decode cX7_year 140 = .ok (.iconst 1, 1) := by decide +kernel
theorem dX7_year_141 : decode cX7_year 141 = .ok (.iload_n 2, 1) := by decide +kernel
theorem dX7_year_142 : decode cX7_year 142 = .ok (.ishl, 1) := by decide +kernel
theorem dX7_year_143 : decode cX7_year 143 = .ok (.iconst (-1), 1) := by decide +kernel
theorem dX7_year_144 : decode cX7_year 144 = .ok (.ixor, 1) := by decide +kernel
theorem dX7_year_145 : decode cX7_year 145 = .ok (.goto 4, 3) := by decide +kernel
theorem dX7_year_148 : decode cX7_year 148 = .ok (.iconst (-1), 1) := by decide +kernel
theorem dX7_year_149 : decode cX7_year 149 = .ok (.iand, 1) := by decide +kernel
theorem dX7_year_150 : decode cX7_year 150 = .ok (.iastore, 1) := by decide +kernel
theorem dX7_year_151 : decode cX7_year 151 = .ok (.iload_n 1, 1) := by decide +kernel
theorem dX7_year_152 : decode cX7_year 152 = .ok (.iload_n 3, 1) := by decide +kernel
theorem dX7_year_153 : decode cX7_year 153 = .ok (.ifCond .eq 7, 3) := by decide +kernel
theorem dX7_year_156 : decode cX7_year 156 = .ok (.iconst 1, 1) := by decide +kernel
theorem dX7_year_157 : decode cX7_year 157 = .ok (.goto 4, 3) := by decide +kernel
theorem dX7_year_160 : decode cX7_year 160 = .ok (.iconst 0, 1) := by decide +kernel
theorem dX7_year_161 : decode cX7_year 161 = .ok (.iadd, 1) := by decide +kernel
theorem dX7_year_162 : decode cX7_year 162 = .ok (.istore_n 1, 1) := by decide +kernel
theorem dX7_year_163 : decode cX7_year 163 = .ok (.iinc 2 1, 3) := by decide +kernel
theorem dX7_year_166 : decode cX7_year 166 = .ok (.goto (-99), 3) := by decide +kernel
theorem dX7_year_169 : decode cX7_year 169 = .ok (.iload_n 1, 1) := by decide +kernel
theorem dX7_year_170 : decode cX7_year 170 = .ok (.ireturn, 1) := by decide +kernel
set_option maxRecDepth 20000 in
theorem ggX7_joins_X7_isRoom : GoodIn wsX7_joins wsX7_isRoom := goodIn_r _ [7, 8, 9, 10, 6, 11, 36, 37, 38, 39, 40, 41, 42, 43, 44, 45, 46, 47, 48, 49, 50, 51, 52, 53, 54, 55, 56, 57, 58, 59, 60] (by decide +kernel) (by decide +kernel)
set_option maxRecDepth 20000 in
theorem gX7_joins_X7_isRoom : GoodIn wsX7_joins (wsV RX7 146 RX7 yX7_isRoom wsX7_isRoom) := goodIn_app (goodIn_of _ (by decide +kernel)) ggX7_joins_X7_isRoom
set_option maxRecDepth 20000 in
theorem ggX7_joins_X7_notes : GoodIn wsX7_joins wsX7_notes := goodIn_r _ [15, 16, 17, 2, 36, 37, 38, 39, 40, 41, 42, 43, 44, 45, 46, 47, 48, 49, 50, 51, 52, 53, 54, 55, 56, 57, 58, 59, 60] (by decide +kernel) (by decide +kernel)
set_option maxRecDepth 20000 in
theorem gX7_joins_X7_notes : GoodIn wsX7_joins (wsV RX7 177 RX7 yX7_notes wsX7_notes) := goodIn_app (goodIn_of _ (by decide +kernel)) ggX7_joins_X7_notes
set_option maxRecDepth 20000 in
theorem ggX7_joins_X7_ageOf : GoodIn wsX7_joins wsX7_ageOf := goodIn_r _ [21, 22, 23, 24, 6, 25, 8, 2, 26, 27, 28, 29, 30, 31, 32, 33, 34, 35, 36, 37, 38, 39, 40, 41, 42, 43, 44, 45, 46, 47, 48, 49, 50, 51, 52, 53, 54, 55, 56, 57, 58, 59, 60] (by decide +kernel) (by decide +kernel)
set_option maxRecDepth 20000 in
theorem gX7_joins_X7_ageOf : GoodIn wsX7_joins (wsV RX7 149 RX7 yX7_ageOf wsX7_ageOf) := goodIn_app (goodIn_of _ (by decide +kernel)) ggX7_joins_X7_ageOf
theorem dX7_joins_0 : decode cX7_joins 0 = .ok (.aload_n 0, 1) := by decide +kernel
theorem dX7_joins_1 : decode cX7_joins 1 = .ok (.iconst 0, 1) := by decide +kernel
theorem dX7_joins_2 : decode cX7_joins 2 = .ok (.putfield 59, 3) := by decide +kernel
theorem dX7_joins_5 : decode cX7_joins 5 = .ok (.aload_n 0, 1) := by decide +kernel
theorem dX7_joins_6 : decode cX7_joins 6 = .ok (.iload_n 1, 1) := by decide +kernel
theorem dX7_joins_7 : decode cX7_joins 7 = .ok (.invokevirtual 146, 3) := by decide +kernel
theorem dX7_joins_10 : decode cX7_joins 10 = .ok (.ifCond .eq 16, 3) := by decide +kernel
theorem dX7_joins_13 : decode cX7_joins 13 = .ok (.aload_n 0, 1) := by decide +kernel
theorem dX7_joins_14 : decode cX7_joins 14 = .ok (.iload_n 2, 1) := by decide +kernel
theorem dX7_joins_15 : decode cX7_joins 15 = .ok (.invokevirtual 146, 3) := by decide +kernel
theorem dX7_joins_18 : decode cX7_joins 18 = .ok (.ifCond .eq 8, 3) := by decide +kernel
theorem dX7_joins_21 : decode cX7_joins 21 = .ok (.iload_n 1, 1) := by decide +kernel
theorem dX7_joins_22 : decode cX7_joins 22 = .ok (.iload_n 2, 1) := by decide +kernel
theorem dX7_joins_23 : decode cX7_joins 23 = .ok (.if_icmp .ne 5, 3) := by decide +kernel
theorem dX7_joins_26 : decode cX7_joins 26 = .ok (.iconst (-1), 1) := by decide +kernel
theorem dX7_joins_27 : decode cX7_joins 27 = .ok (.ireturn, 1) := by decide +kernel
theorem dX7_joins_28 : decode cX7_joins 28 = .ok (.aload_n 0, 1) := by decide +kernel
theorem dX7_joins_29 : decode cX7_joins 29 = .ok (.getfield 25, 3) := by decide +kernel
theorem dX7_joins_32 : decode cX7_joins 32 = .ok (.bipush 7, 2) := by decide +kernel
theorem dX7_joins_34 : decode cX7_joins 34 = .ok (.iload_n 1, 1) := by decide +kernel
theorem dX7_joins_35 : decode cX7_joins 35 = .ok (.iadd, 1) := by decide +kernel
theorem dX7_joins_36 : decode cX7_joins 36 = .ok (.iaload, 1) := by decide +kernel
theorem dX7_joins_37 : decode cX7_joins 37 = .ok (.istore_n 3, 1) := by decide +kernel
theorem dX7_joins_38 : decode cX7_joins 38 = .ok (.aload_n 0, 1) := by decide +kernel
theorem dX7_joins_39 : decode cX7_joins 39 = .ok (.getfield 25, 3) := by decide +kernel
theorem dX7_joins_42 : decode cX7_joins 42 = .ok (.bipush 7, 2) := by decide +kernel
theorem dX7_joins_44 : decode cX7_joins 44 = .ok (.iload_n 2, 1) := by decide +kernel
theorem dX7_joins_45 : decode cX7_joins 45 = .ok (.iadd, 1) := by decide +kernel
theorem dX7_joins_46 : decode cX7_joins 46 = .ok (.iaload, 1) := by decide +kernel
theorem dX7_joins_47 : decode cX7_joins 47 = .ok (.istore 4, 2) := by decide +kernel
theorem dX7_joins_49 : decode cX7_joins 49 = .ok (.iload_n 3, 1) := by decide +kernel
theorem dX7_joins_50 : decode cX7_joins 50 = .ok (.iload 4, 2) := by decide +kernel
theorem dX7_joins_52 : decode cX7_joins 52 = .ok (.if_icmp .ne 6, 3) := by decide +kernel
theorem dX7_joins_55 : decode cX7_joins 55 = .ok (.bipush (-2), 2) := by decide +kernel
theorem dX7_joins_57 : decode cX7_joins 57 = .ok (.ireturn, 1) := by decide +kernel
theorem dX7_joins_58 : decode cX7_joins 58 = .ok (.aload_n 0, 1) := by decide +kernel
theorem dX7_joins_59 : decode cX7_joins 59 = .ok (.invokevirtual 177, 3) := by decide +kernel
theorem dX7_joins_62 : decode cX7_joins 62 = .ok (.iload_n 3, 1) := by decide +kernel
theorem dX7_joins_63 : decode cX7_joins 63 = .ok (.iload 4, 2) := by decide +kernel
theorem dX7_joins_65 : decode cX7_joins 65 = .ok (.if_icmp .ge 7, 3) := by decide +kernel
theorem dX7_joins_68 : decode cX7_joins 68 = .ok (.iload_n 3, 1) := by decide +kernel
theorem dX7_joins_69 : decode cX7_joins 69 = .ok (.goto 5, 3) := by decide +kernel
theorem dX7_joins_72 : decode cX7_joins 72 = .ok (.iload 4, 2) := by decide +kernel
theorem dX7_joins_74 : decode cX7_joins 74 = .ok (.istore 5, 2) := by decide +kernel
theorem dX7_joins_76 : decode cX7_joins 76 = .ok (.iconst 0, 1) := by decide +kernel
theorem dX7_joins_77 : decode cX7_joins 77 = .ok (.istore 6, 2) := by decide +kernel
theorem dX7_joins_79 : decode cX7_joins 79 = .ok (.iload 6, 2) := by decide +kernel
theorem dX7_joins_81 : decode cX7_joins 81 = .ok (.bipush 6, 2) := by decide +kernel
theorem dX7_joins_83 : decode cX7_joins 83 = .ok (.if_icmp .ge 51, 3) := by decide +kernel
theorem dX7_joins_86 : decode cX7_joins 86 = .ok (.aload_n 0, 1) := by decide +kernel
theorem dX7_joins_87 : decode cX7_joins 87 = .ok (.getfield 25, 3) := by decide +kernel
theorem dX7_joins_90 : decode cX7_joins 90 = .ok (.bipush 7, 2) := by decide +kernel
theorem dX7_joins_92 : decode cX7_joins 92 = .ok (.iload 6, 2) := by decide +kernel
theorem dX7_joins_94 : decode cX7_joins 94 = .ok (.iadd, 1) := by decide +kernel
theorem dX7_joins_95 : decode cX7_joins 95 = .ok (.iaload, 1) := by decide +kernel
theorem dX7_joins_96 : decode cX7_joins 96 = .ok (.istore 7, 2) := by decide +kernel
theorem dX7_joins_98 : decode cX7_joins 98 = .ok (.aload_n 0, 1) := by decide +kernel
theorem dX7_joins_99 : decode cX7_joins 99 = .ok (.getfield 25, 3) := by decide +kernel
theorem dX7_joins_102 : decode cX7_joins 102 = .ok (.bipush 7, 2) := by decide +kernel
theorem dX7_joins_104 : decode cX7_joins 104 = .ok (.iload 6, 2) := by decide +kernel
theorem dX7_joins_106 : decode cX7_joins 106 = .ok (.iadd, 1) := by decide +kernel
theorem dX7_joins_107 : decode cX7_joins 107 = .ok (.iload 7, 2) := by decide +kernel
theorem dX7_joins_109 : decode cX7_joins 109 = .ok (.iload_n 3, 1) := by decide +kernel
theorem dX7_joins_110 : decode cX7_joins 110 = .ok (.if_icmp .eq 10, 3) := by decide +kernel
theorem dX7_joins_113 : decode cX7_joins 113 = .ok (.iload 7, 2) := by decide +kernel
theorem dX7_joins_115 : decode cX7_joins 115 = .ok (.iload 4, 2) := by decide +kernel
theorem dX7_joins_117 : decode cX7_joins 117 = .ok (.if_icmp .ne 8, 3) := by decide +kernel
theorem dX7_joins_120 : decode cX7_joins 120 = .ok (.iload 5, 2) := by decide +kernel
theorem dX7_joins_122 : decode cX7_joins 122 = .ok (.goto 5, 3) := by decide +kernel
theorem dX7_joins_125 : decode cX7_joins 125 = .ok (.iload 7, 2) := by decide +kernel
theorem dX7_joins_127 : decode cX7_joins 127 = .ok (.iastore, 1) := by decide +kernel
theorem dX7_joins_128 : decode cX7_joins 128 = .ok (.iinc 6 1, 3) := by decide +kernel
theorem dX7_joins_131 : decode cX7_joins 131 = .ok (.goto (-52), 3) := by decide +kernel
theorem dX7_joins_134 : decode cX7_joins 134 = .ok (.aload_n 0, 1) := by decide +kernel
theorem dX7_joins_135 : decode cX7_joins 135 = .ok (.iload_n 1, 1) := by decide +kernel
theorem dX7_joins_136 : decode cX7_joins 136 = .ok (.invokevirtual 149, 3) := by decide +kernel
theorem dX7_joins_139 : decode cX7_joins 139 = .ok (.ireturn, 1) := by decide +kernel
set_option maxRecDepth 20000 in
theorem ggX7_builds_X7_isRoom : GoodIn wsX7_builds wsX7_isRoom := goodIn_r _ [7, 8, 9, 10, 6, 11, 28, 29, 30, 31, 32, 33, 34, 35, 36, 37, 38, 39, 40, 41, 42, 43, 44, 45, 46, 47, 48, 49, 50, 51, 52] (by decide +kernel) (by decide +kernel)
set_option maxRecDepth 20000 in
theorem gX7_builds_X7_isRoom : GoodIn wsX7_builds (wsV RX7 146 RX7 yX7_isRoom wsX7_isRoom) := goodIn_app (goodIn_of _ (by decide +kernel)) ggX7_builds_X7_isRoom
set_option maxRecDepth 20000 in
theorem ggX7_builds_X7_joinedWith : GoodIn wsX7_builds wsX7_joinedWith := goodIn_r _ [15, 8, 2, 28, 29, 30, 31, 32, 33, 34, 35, 36, 37, 38, 39, 40, 41, 42, 43, 44, 45, 46, 47, 48, 49, 50, 51, 52] (by decide +kernel) (by decide +kernel)
set_option maxRecDepth 20000 in
theorem gX7_builds_X7_joinedWith : GoodIn wsX7_builds (wsV RX7 131 RX7 yX7_joinedWith wsX7_joinedWith) := goodIn_app (goodIn_of _ (by decide +kernel)) ggX7_builds_X7_joinedWith
set_option maxRecDepth 20000 in
theorem ggX7_builds_X7_ones : GoodIn wsX7_builds wsX7_ones := goodIn_r _ [18] (by decide +kernel) (by decide +kernel)
set_option maxRecDepth 20000 in
theorem gX7_builds_X7_ones : GoodIn wsX7_builds (va_wsS RX7 128 yX7_ones wsX7_ones) := goodIn_app (goodIn_of _ (by decide +kernel)) ggX7_builds_X7_ones
set_option maxRecDepth 20000 in
theorem ggX7_builds_X7_notes : GoodIn wsX7_builds wsX7_notes := goodIn_r _ [22, 23, 24, 2, 28, 29, 30, 31, 32, 33, 34, 35, 36, 37, 38, 39, 40, 41, 42, 43, 44, 45, 46, 47, 48, 49, 50, 51, 52] (by decide +kernel) (by decide +kernel)
set_option maxRecDepth 20000 in
theorem gX7_builds_X7_notes : GoodIn wsX7_builds (wsV RX7 177 RX7 yX7_notes wsX7_notes) := goodIn_app (goodIn_of _ (by decide +kernel)) ggX7_builds_X7_notes
set_option maxRecDepth 20000 in
theorem ggX7_builds_X7_has : GoodIn wsX7_builds wsX7_has := goodIn_r _ [27] (by decide +kernel) (by decide +kernel)
set_option maxRecDepth 20000 in
theorem gX7_builds_X7_has : GoodIn wsX7_builds (va_wsS RX7 124 yX7_has wsX7_has) := goodIn_app (goodIn_of _ (by decide +kernel)) ggX7_builds_X7_has
theorem dX7_builds_0 : decode cX7_builds 0 = .ok (.aload_n 0, 1) := by decide +kernel
theorem dX7_builds_1 : decode cX7_builds 1 = .ok (.iconst 0, 1) := by decide +kernel
theorem dX7_builds_2 : decode cX7_builds 2 = .ok (.putfield 59, 3) := by decide +kernel
theorem dX7_builds_5 : decode cX7_builds 5 = .ok (.aload_n 0, 1) := by decide +kernel
theorem dX7_builds_6 : decode cX7_builds 6 = .ok (.iload_n 1, 1) := by decide +kernel
theorem dX7_builds_7 : decode cX7_builds 7 = .ok (.invokevirtual 146, 3) := by decide +kernel
theorem dX7_builds_10 : decode cX7_builds 10 = .ok (.ifCond .ne 5, 3) := by decide +kernel
theorem dX7_builds_13 : decode cX7_builds 13 = .ok (.iconst (-1), 1) := by decide +kernel
theorem dX7_builds_14 : decode cX7_builds 14 = .ok (.ireturn, 1) := by decide +kernel
theorem dX7_builds_15 : decode cX7_builds 15 = .ok (.aload_n 0, 1) := by decide +kernel
theorem dX7_builds_16 : decode cX7_builds 16 = .ok (.iload_n 1, 1) := by decide +kernel
theorem dX7_builds_17 : decode cX7_builds 17 = .ok (.invokevirtual 131, 3) := by decide +kernel
theorem dX7_builds_20 : decode cX7_builds 20 = .ok (.istore_n 2, 1) := by decide +kernel
theorem dX7_builds_21 : decode cX7_builds 21 = .ok (.aload_n 0, 1) := by decide +kernel
theorem dX7_builds_22 : decode cX7_builds 22 = .ok (.getfield 25, 3) := by decide +kernel
theorem dX7_builds_25 : decode cX7_builds 25 = .ok (.iconst 1, 1) := by decide +kernel
theorem dX7_builds_26 : decode cX7_builds 26 = .ok (.iload_n 1, 1) := by decide +kernel
theorem dX7_builds_27 : decode cX7_builds 27 = .ok (.iadd, 1) := by decide +kernel
theorem dX7_builds_28 : decode cX7_builds 28 = .ok (.iaload, 1) := by decide +kernel
theorem dX7_builds_29 : decode cX7_builds 29 = .ok (.istore_n 3, 1) := by decide +kernel
theorem dX7_builds_30 : decode cX7_builds 30 = .ok (.iload_n 3, 1) := by decide +kernel
theorem dX7_builds_31 : decode cX7_builds 31 = .ok (.ifCond .ne 14, 3) := by decide +kernel
theorem dX7_builds_34 : decode cX7_builds 34 = .ok (.iload_n 2, 1) := by decide +kernel
theorem dX7_builds_35 : decode cX7_builds 35 = .ok (.invokestatic 128, 3) := by decide +kernel
theorem dX7_builds_38 : decode cX7_builds 38 = .ok (.iconst 1, 1) := by decide +kernel
theorem dX7_builds_39 : decode cX7_builds 39 = .ok (.if_icmp .ne 6, 3) := by decide +kernel
theorem dX7_builds_42 : decode cX7_builds 42 = .ok (.bipush (-2), 2) := by decide +kernel
theorem dX7_builds_44 : decode cX7_builds 44 = .ok (.ireturn, 1) := by decide +kernel
theorem dX7_builds_45 : decode cX7_builds 45 = .ok (.aload_n 0, 1) := by decide +kernel
theorem dX7_builds_46 : decode cX7_builds 46 = .ok (.invokevirtual 177, 3) := by decide +kernel
theorem dX7_builds_49 : decode cX7_builds 49 = .ok (.aload_n 0, 1) := by decide +kernel
theorem dX7_builds_50 : decode cX7_builds 50 = .ok (.getfield 25, 3) := by decide +kernel
theorem dX7_builds_53 : decode cX7_builds 53 = .ok (.iconst 1, 1) := by decide +kernel
theorem dX7_builds_54 : decode cX7_builds 54 = .ok (.iload_n 1, 1) := by decide +kernel
theorem dX7_builds_55 : decode cX7_builds 55 = .ok (.iadd, 1) := by decide +kernel
theorem dX7_builds_56 : decode cX7_builds 56 = .ok (.iconst 0, 1) := by decide +kernel
theorem dX7_builds_57 : decode cX7_builds 57 = .ok (.iastore, 1) := by decide +kernel
theorem dX7_builds_58 : decode cX7_builds 58 = .ok (.iload_n 2, 1) := by decide +kernel
theorem dX7_builds_59 : decode cX7_builds 59 = .ok (.iconst 1, 1) := by decide +kernel
theorem dX7_builds_60 : decode cX7_builds 60 = .ok (.iload_n 1, 1) := by decide +kernel
theorem dX7_builds_61 : decode cX7_builds 61 = .ok (.ishl, 1) := by decide +kernel
theorem dX7_builds_62 : decode cX7_builds 62 = .ok (.iconst (-1), 1) := by decide +kernel
theorem dX7_builds_63 : decode cX7_builds 63 = .ok (.ixor, 1) := by decide +kernel
theorem dX7_builds_64 : decode cX7_builds 64 = .ok (.iand, 1) := by decide +kernel
theorem dX7_builds_65 : decode cX7_builds 65 = .ok (.istore 4, 2) := by decide +kernel
theorem dX7_builds_67 : decode cX7_builds 67 = .ok (.iconst 0, 1) := by decide +kernel
theorem dX7_builds_68 : decode cX7_builds 68 = .ok (.istore 5, 2) := by decide +kernel
theorem dX7_builds_70 : decode cX7_builds 70 = .ok (.iload 5, 2) := by decide +kernel
theorem dX7_builds_72 : decode cX7_builds 72 = .ok (.bipush 6, 2) := by decide +kernel
theorem dX7_builds_74 : decode cX7_builds 74 = .ok (.if_icmp .ge 19, 3) := by decide +kernel
theorem dX7_builds_77 : decode cX7_builds 77 = .ok (.iload 4, 2) := by decide +kernel
theorem dX7_builds_79 : decode cX7_builds 79 = .ok (.iload 5, 2) := by decide +kernel
theorem dX7_builds_81 : decode cX7_builds 81 = .ok (.invokestatic 124, 3) := by decide +kernel
theorem dX7_builds_84 : decode cX7_builds 84 = .ok (.ifCond .ne 9, 3) := by decide +kernel
theorem dX7_builds_87 : decode cX7_builds 87 = .ok (.iinc 5 1, 3) := by decide +kernel
theorem dX7_builds_90 : decode cX7_builds 90 = .ok (.goto (-20), 3) := by decide +kernel
theorem dX7_builds_93 : decode cX7_builds 93 = .ok (.iconst 0, 1) := by decide +kernel
theorem dX7_builds_94 : decode cX7_builds 94 = .ok (.istore 6, 2) := by decide +kernel
theorem dX7_builds_96 : decode cX7_builds 96 = .ok (.iload 6, 2) := by decide +kernel
theorem dX7_builds_98 : decode cX7_builds 98 = .ok (.bipush 6, 2) := by decide +kernel
theorem dX7_builds_100 : decode cX7_builds 100 = .ok (.if_icmp .ge 44, 3) := by decide +kernel
theorem dX7_builds_103 : decode cX7_builds 103 = .ok (.aload_n 0, 1) := by decide +kernel
theorem dX7_builds_104 : decode cX7_builds 104 = .ok (.getfield 25, 3) := by decide +kernel
theorem dX7_builds_107 : decode cX7_builds 107 = .ok (.bipush 7, 2) := by decide +kernel
theorem dX7_builds_109 : decode cX7_builds 109 = .ok (.iload 6, 2) := by decide +kernel
theorem dX7_builds_111 : decode cX7_builds 111 = .ok (.iadd, 1) := by decide +kernel
theorem dX7_builds_112 : decode cX7_builds 112 = .ok (.iload 4, 2) := by decide +kernel
theorem dX7_builds_114 : decode cX7_builds 114 = .ok (.iload 6, 2) := by decide +kernel
theorem dX7_builds_116 : decode cX7_builds 116 = .ok (.invokestatic 124, 3) := by decide +kernel
theorem dX7_builds_119 : decode cX7_builds 119 = .ok (.ifCond .eq 8, 3) := by decide +kernel
theorem dX7_builds_122 : decode cX7_builds 122 = .ok (.iload 5, 2) := by decide +kernel
theorem dX7_builds_124 : decode cX7_builds 124 = .ok (.goto 13, 3) := by decide +kernel
theorem dX7_builds_127 : decode cX7_builds 127 = .ok (.aload_n 0, 1) := by decide +kernel
theorem dX7_builds_128 : decode cX7_builds 128 = .ok (.getfield 25, 3) := by decide +kernel
theorem dX7_builds_131 : decode cX7_builds 131 = .ok (.bipush 7, 2) := by decide +kernel
theorem dX7_builds_133 : decode cX7_builds 133 = .ok (.iload 6, 2) := by decide +kernel
theorem dX7_builds_135 : decode cX7_builds 135 = .ok (.iadd, 1) := by decide +kernel
theorem dX7_builds_136 : decode cX7_builds 136 = .ok (.iaload, 1) := by decide +kernel
theorem dX7_builds_137 : decode cX7_builds 137 = .ok (.iastore, 1) := by decide +kernel
theorem dX7_builds_138 : decode cX7_builds 138 = .ok (.iinc 6 1, 3) := by decide +kernel
theorem dX7_builds_141 : decode cX7_builds 141 = .ok (.goto (-45), 3) := by decide +kernel
theorem dX7_builds_144 : decode cX7_builds 144 = .ok (.aload_n 0, 1) := by decide +kernel
theorem dX7_builds_145 : decode cX7_builds 145 = .ok (.getfield 25, 3) := by decide +kernel
theorem dX7_builds_148 : decode cX7_builds 148 = .ok (.bipush 7, 2) := by decide +kernel
theorem dX7_builds_150 : decode cX7_builds 150 = .ok (.iload_n 1, 1) := by decide +kernel
theorem dX7_builds_151 : decode cX7_builds 151 = .ok (.iadd, 1) := by decide +kernel
theorem dX7_builds_152 : decode cX7_builds 152 = .ok (.iload_n 1, 1) := by decide +kernel
theorem dX7_builds_153 : decode cX7_builds 153 = .ok (.iastore, 1) := by decide +kernel
theorem dX7_builds_154 : decode cX7_builds 154 = .ok (.iload_n 3, 1) := by decide +kernel
theorem dX7_builds_155 : decode cX7_builds 155 = .ok (.ireturn, 1) := by decide +kernel
theorem dX7_undo_0 : decode cX7_undo 0 = .ok (.aload_n 0, 1) := by decide +kernel
theorem dX7_undo_1 : decode cX7_undo 1 = .ok (.iconst 0, 1) := by decide +kernel
theorem dX7_undo_2 : decode cX7_undo 2 = .ok (.putfield 59, 3) := by decide +kernel
theorem dX7_undo_5 : decode cX7_undo 5 = .ok (.aload_n 0, 1) := by decide +kernel
theorem dX7_undo_6 : decode cX7_undo 6 = .ok (.getfield 121, 3) := by decide +kernel
theorem dX7_undo_9 : decode cX7_undo 9 = .ok (.ifCond .ne 6, 3) := by decide +kernel
theorem dX7_undo_12 : decode cX7_undo 12 = .ok (.bipush (-2), 2) := by decide +kernel
theorem dX7_undo_14 : decode cX7_undo 14 = .ok (.ireturn, 1) := by decide +kernel
theorem dX7_undo_15 : decode cX7_undo 15 = .ok (.aload_n 0, 1) := by decide +kernel
theorem dX7_undo_16 : decode cX7_undo 16 = .ok (.dup, 1) := by decide +kernel
theorem dX7_undo_17 : decode cX7_undo 17 = .ok (.getfield 121, 3) := by decide +kernel
theorem dX7_undo_20 : decode cX7_undo 20 = .ok (.iconst 1, 1) := by decide +kernel
theorem dX7_undo_21 : decode cX7_undo 21 = .ok (.isub, 1) := by decide +kernel
theorem dX7_undo_22 : decode cX7_undo 22 = .ok (.putfield 121, 3) := by decide +kernel
theorem dX7_undo_25 : decode cX7_undo 25 = .ok (.iconst 0, 1) := by decide +kernel
theorem dX7_undo_26 : decode cX7_undo 26 = .ok (.istore_n 1, 1) := by decide +kernel
theorem dX7_undo_27 : decode cX7_undo 27 = .ok (.iload_n 1, 1) := by decide +kernel
theorem dX7_undo_28 : decode cX7_undo 28 = .ok (.bipush 21, 2) := by decide +kernel
theorem dX7_undo_30 : decode cX7_undo 30 = .ok (.if_icmp .ge 29, 3) := by decide +kernel
theorem dX7_undo_33 : decode cX7_undo 33 = .ok (.aload_n 0, 1) := by decide +kernel
theorem dX7_undo_34 : decode cX7_undo 34 = .ok (.getfield 25, 3) := by decide +kernel
theorem dX7_undo_37 : decode cX7_undo 37 = .ok (.iload_n 1, 1) := by decide +kernel
theorem dX7_undo_38 : decode cX7_undo 38 = .ok (.aload_n 0, 1) := by decide +kernel
theorem dX7_undo_39 : decode cX7_undo 39 = .ok (.getfield 35, 3) := by decide +kernel
theorem dX7_undo_42 : decode cX7_undo 42 = .ok (.bipush 21, 2) := by decide +kernel
theorem dX7_undo_44 : decode cX7_undo 44 = .ok (.aload_n 0, 1) := by decide +kernel
theorem dX7_undo_45 : decode cX7_undo 45 = .ok (.getfield 121, 3) := by decide +kernel
theorem dX7_undo_48 : decode cX7_undo 48 = .ok (.imul, 1) := by decide +kernel
theorem dX7_undo_49 : decode cX7_undo 49 = .ok (.iload_n 1, 1) := by decide +kernel
theorem dX7_undo_50 : decode cX7_undo 50 = .ok (.iadd, 1) := by decide +kernel
theorem dX7_undo_51 : decode cX7_undo 51 = .ok (.iaload, 1) := by decide +kernel
theorem dX7_undo_52 : decode cX7_undo 52 = .ok (.iastore, 1) := by decide +kernel
theorem dX7_undo_53 : decode cX7_undo 53 = .ok (.iinc 1 1, 3) := by decide +kernel
theorem dX7_undo_56 : decode cX7_undo 56 = .ok (.goto (-29), 3) := by decide +kernel
theorem dX7_undo_59 : decode cX7_undo 59 = .ok (.aload_n 0, 1) := by decide +kernel
theorem dX7_undo_60 : decode cX7_undo 60 = .ok (.getfield 121, 3) := by decide +kernel
theorem dX7_undo_63 : decode cX7_undo 63 = .ok (.ireturn, 1) := by decide +kernel
set_option maxRecDepth 20000 in
theorem ggX7_fills_X7_isChild : GoodIn wsX7_fills wsX7_isChild := goodIn_r _ [7, 8, 9, 10, 6, 11, 44, 45, 46, 47, 48, 49, 50, 51, 52, 53, 54, 55, 56, 57, 58, 59, 60, 61, 62, 63, 64, 65, 66, 67, 68] (by decide +kernel) (by decide +kernel)
set_option maxRecDepth 20000 in
theorem gX7_fills_X7_isChild : GoodIn wsX7_fills (wsV RX7 152 RX7 yX7_isChild wsX7_isChild) := goodIn_app (goodIn_of _ (by decide +kernel)) ggX7_fills_X7_isChild
set_option maxRecDepth 20000 in
theorem ggX7_fills_X7_asNow : GoodIn wsX7_fills wsX7_asNow := goodIn_r _ [15, 16, 8, 17, 18, 19, 6, 20, 21, 22, 23, 24, 25, 26, 27, 28, 29, 30, 9, 10, 11, 44, 45, 46, 47, 48, 49, 50, 51, 52, 53, 54, 55, 56, 57, 58, 59, 60, 61, 62, 63, 64, 65, 66, 67, 68] (by decide +kernel) (by decide +kernel)
set_option maxRecDepth 20000 in
theorem gX7_fills_X7_asNow : GoodIn wsX7_fills (wsV RX7 170 RX7 yX7_asNow wsX7_asNow) := goodIn_app (goodIn_of _ (by decide +kernel)) ggX7_fills_X7_asNow
set_option maxRecDepth 20000 in
theorem ggX7_fills_X7_filled : GoodIn wsX7_fills wsX7_filled := goodIn_r _ [34, 8, 2, 35, 36, 37, 38, 6, 39, 40, 41, 42, 43, 16, 22, 23, 24, 44, 45, 46, 47, 48, 49, 50, 51, 52, 53, 54, 55, 56, 57, 58, 59, 60, 61, 62, 63, 64, 65, 66, 67, 68] (by decide +kernel) (by decide +kernel)
set_option maxRecDepth 20000 in
theorem gX7_fills_X7_filled : GoodIn wsX7_fills (wsV RX7 173 RX7 yX7_filled wsX7_filled) := goodIn_app (goodIn_of _ (by decide +kernel)) ggX7_fills_X7_filled
theorem dX7_fills_0 : decode cX7_fills 0 = .ok (.aload_n 0, 1) := by decide +kernel
theorem dX7_fills_1 : decode cX7_fills 1 = .ok (.iconst 0, 1) := by decide +kernel
theorem dX7_fills_2 : decode cX7_fills 2 = .ok (.putfield 59, 3) := by decide +kernel
theorem dX7_fills_5 : decode cX7_fills 5 = .ok (.aload_n 0, 1) := by decide +kernel
theorem dX7_fills_6 : decode cX7_fills 6 = .ok (.iload_n 1, 1) := by decide +kernel
theorem dX7_fills_7 : decode cX7_fills 7 = .ok (.invokevirtual 152, 3) := by decide +kernel
theorem dX7_fills_10 : decode cX7_fills 10 = .ok (.ifCond .ne 5, 3) := by decide +kernel
theorem dX7_fills_13 : decode cX7_fills 13 = .ok (.iconst (-1), 1) := by decide +kernel
theorem dX7_fills_14 : decode cX7_fills 14 = .ok (.ireturn, 1) := by decide +kernel
theorem dX7_fills_15 : decode cX7_fills 15 = .ok (.aload_n 0, 1) := by decide +kernel
theorem dX7_fills_16 : decode cX7_fills 16 = .ok (.invokevirtual 170, 3) := by decide +kernel
theorem dX7_fills_19 : decode cX7_fills 19 = .ok (.aload_n 0, 1) := by decide +kernel
theorem dX7_fills_20 : decode cX7_fills 20 = .ok (.invokevirtual 173, 3) := by decide +kernel
theorem dX7_fills_23 : decode cX7_fills 23 = .ok (.pop, 1) := by decide +kernel
theorem dX7_fills_24 : decode cX7_fills 24 = .ok (.aload_n 0, 1) := by decide +kernel
theorem dX7_fills_25 : decode cX7_fills 25 = .ok (.getfield 50, 3) := by decide +kernel
theorem dX7_fills_28 : decode cX7_fills 28 = .ok (.iload_n 1, 1) := by decide +kernel
theorem dX7_fills_29 : decode cX7_fills 29 = .ok (.iaload, 1) := by decide +kernel
theorem dX7_fills_30 : decode cX7_fills 30 = .ok (.iconst 5, 1) := by decide +kernel
theorem dX7_fills_31 : decode cX7_fills 31 = .ok (.if_icmp .ne 8, 3) := by decide +kernel
theorem dX7_fills_34 : decode cX7_fills 34 = .ok (.bipush (-9), 2) := by decide +kernel
theorem dX7_fills_36 : decode cX7_fills 36 = .ok (.goto 9, 3) := by decide +kernel
theorem dX7_fills_39 : decode cX7_fills 39 = .ok (.aload_n 0, 1) := by decide +kernel
theorem dX7_fills_40 : decode cX7_fills 40 = .ok (.getfield 50, 3) := by decide +kernel
theorem dX7_fills_43 : decode cX7_fills 43 = .ok (.iload_n 1, 1) := by decide +kernel
theorem dX7_fills_44 : decode cX7_fills 44 = .ok (.iaload, 1) := by decide +kernel
theorem dX7_fills_45 : decode cX7_fills 45 = .ok (.ireturn, 1) := by decide +kernel
set_option maxRecDepth 20000 in
theorem ggX7_carry_X7_isChild : GoodIn wsX7_carry wsX7_isChild := goodIn_r _ [9, 3, 10, 11, 8, 12, 59, 60, 61, 62, 63, 64, 65, 66, 67, 68, 69, 70, 71, 72, 73, 74, 75, 76, 77, 78, 79, 80, 81, 82, 83] (by decide +kernel) (by decide +kernel)
set_option maxRecDepth 20000 in
theorem gX7_carry_X7_isChild : GoodIn wsX7_carry (wsV RX7 152 RX7 yX7_isChild wsX7_isChild) := goodIn_app (goodIn_of _ (by decide +kernel)) ggX7_carry_X7_isChild
set_option maxRecDepth 20000 in
theorem ggX7_carry_X7_in : GoodIn wsX7_carry wsX7_in := goodIn_r _ [12] (by decide +kernel) (by decide +kernel)
set_option maxRecDepth 20000 in
theorem gX7_carry_X7_in : GoodIn wsX7_carry (va_wsS RX7 63 yX7_in wsX7_in) := goodIn_app (goodIn_of _ (by decide +kernel)) ggX7_carry_X7_in
set_option maxRecDepth 20000 in
theorem ggX7_carry_X7_has : GoodIn wsX7_carry wsX7_has := goodIn_r _ [15] (by decide +kernel) (by decide +kernel)
set_option maxRecDepth 20000 in
theorem gX7_carry_X7_has : GoodIn wsX7_carry (va_wsS RX7 124 yX7_has wsX7_has) := goodIn_app (goodIn_of _ (by decide +kernel)) ggX7_carry_X7_has
set_option maxRecDepth 20000 in
theorem ggX7_carry_X7_asNow : GoodIn wsX7_carry wsX7_asNow := goodIn_r _ [19, 4, 3, 20, 21, 22, 8, 23, 2, 13, 14, 15, 24, 25, 26, 27, 28, 29, 10, 11, 12, 59, 60, 61, 62, 63, 64, 65, 66, 67, 68, 69, 70, 71, 72, 73, 74, 75, 76, 77, 78, 79, 80, 81, 82, 83] (by decide +kernel) (by decide +kernel)
set_option maxRecDepth 20000 in
theorem gX7_carry_X7_asNow : GoodIn wsX7_carry (wsV RX7 170 RX7 yX7_asNow wsX7_asNow) := goodIn_app (goodIn_of _ (by decide +kernel)) ggX7_carry_X7_asNow
set_option maxRecDepth 20000 in
theorem ggX7_carry_X7_ageOf : GoodIn wsX7_carry wsX7_ageOf := goodIn_r _ [33, 34, 35, 36, 8, 37, 3, 2, 38, 39, 40, 41, 13, 14, 15, 42, 43, 44, 59, 60, 61, 62, 63, 64, 65, 66, 67, 68, 69, 70, 71, 72, 73, 74, 75, 76, 77, 78, 79, 80, 81, 82, 83] (by decide +kernel) (by decide +kernel)
set_option maxRecDepth 20000 in
theorem gX7_carry_X7_ageOf : GoodIn wsX7_carry (wsV RX7 149 RX7 yX7_ageOf wsX7_ageOf) := goodIn_app (goodIn_of _ (by decide +kernel)) ggX7_carry_X7_ageOf
set_option maxRecDepth 20000 in
theorem ggX7_carry_X7_worksAt : GoodIn wsX7_carry wsX7_worksAt := goodIn_r _ [27, 3, 28, 29, 10, 11, 8, 12, 59, 60, 61, 62, 63, 64, 65, 66, 67, 68, 69, 70, 71, 72, 73, 74, 75, 76, 77, 78, 79, 80, 81, 82, 83] (by decide +kernel) (by decide +kernel)
set_option maxRecDepth 20000 in
theorem gX7_carry_X7_worksAt : GoodIn wsX7_carry (wsV RX7 137 RX7 yX7_worksAt wsX7_worksAt) := goodIn_app (goodIn_of _ (by decide +kernel)) ggX7_carry_X7_worksAt
set_option maxRecDepth 20000 in
theorem ggX7_carry_X7_filled : GoodIn wsX7_carry wsX7_filled := goodIn_r _ [48, 3, 49, 50, 51, 52, 53, 8, 54, 55, 56, 57, 58, 4, 13, 14, 15, 59, 60, 61, 62, 63, 64, 65, 66, 67, 68, 69, 70, 71, 72, 73, 74, 75, 76, 77, 78, 79, 80, 81, 82, 83] (by decide +kernel) (by decide +kernel)
set_option maxRecDepth 20000 in
theorem gX7_carry_X7_filled : GoodIn wsX7_carry (wsV RX7 173 RX7 yX7_filled wsX7_filled) := goodIn_app (goodIn_of _ (by decide +kernel)) ggX7_carry_X7_filled
theorem dX7_carry_0 : decode cX7_carry 0 = .ok (.aload_n 0, 1) := by decide +kernel
theorem dX7_carry_1 : decode cX7_carry 1 = .ok (.iconst 0, 1) := by decide +kernel
theorem dX7_carry_2 : decode cX7_carry 2 = .ok (.putfield 59, 3) := by decide +kernel
theorem dX7_carry_5 : decode cX7_carry 5 = .ok (.aload_n 0, 1) := by decide +kernel
theorem dX7_carry_6 : decode cX7_carry 6 = .ok (.iload_n 1, 1) := by decide +kernel
theorem dX7_carry_7 : decode cX7_carry 7 = .ok (.invokevirtual 152, 3) := by decide +kernel
theorem dX7_carry_10 : decode cX7_carry 10 = .ok (.ifCond .eq 12, 3) := by decide +kernel
theorem dX7_carry_13 : decode cX7_carry 13 = .ok (.iload_n 2, 1) := by decide +kernel
theorem dX7_carry_14 : decode cX7_carry 14 = .ok (.iconst 0, 1) := by decide +kernel
theorem dX7_carry_15 : decode cX7_carry 15 = .ok (.iconst 1, 1) := by decide +kernel
theorem dX7_carry_16 : decode cX7_carry 16 = .ok (.invokestatic 63, 3) := by decide +kernel
theorem dX7_carry_19 : decode cX7_carry 19 = .ok (.ifCond .ne 5, 3) := by decide +kernel
theorem dX7_carry_22 : decode cX7_carry 22 = .ok (.iconst (-1), 1) := by decide +kernel
theorem dX7_carry_23 : decode cX7_carry 23 = .ok (.ireturn, 1) := by decide +kernel
theorem dX7_carry_24 : decode cX7_carry 24 = .ok (.aload_n 0, 1) := by decide +kernel
theorem dX7_carry_25 : decode cX7_carry 25 = .ok (.getfield 25, 3) := by decide +kernel
theorem dX7_carry_28 : decode cX7_carry 28 = .ok (.bipush 13, 2) := by decide +kernel
theorem dX7_carry_30 : decode cX7_carry 30 = .ok (.iaload, 1) := by decide +kernel
theorem dX7_carry_31 : decode cX7_carry 31 = .ok (.iload_n 1, 1) := by decide +kernel
theorem dX7_carry_32 : decode cX7_carry 32 = .ok (.invokestatic 124, 3) := by decide +kernel
theorem dX7_carry_35 : decode cX7_carry 35 = .ok (.ifCond .eq 6, 3) := by decide +kernel
theorem dX7_carry_38 : decode cX7_carry 38 = .ok (.bipush (-2), 2) := by decide +kernel
theorem dX7_carry_40 : decode cX7_carry 40 = .ok (.ireturn, 1) := by decide +kernel
theorem dX7_carry_41 : decode cX7_carry 41 = .ok (.bipush (-9), 2) := by decide +kernel
theorem dX7_carry_43 : decode cX7_carry 43 = .ok (.istore_n 3, 1) := by decide +kernel
theorem dX7_carry_44 : decode cX7_carry 44 = .ok (.bipush (-9), 2) := by decide +kernel
theorem dX7_carry_46 : decode cX7_carry 46 = .ok (.istore 4, 2) := by decide +kernel
theorem dX7_carry_48 : decode cX7_carry 48 = .ok (.iconst 0, 1) := by decide +kernel
theorem dX7_carry_49 : decode cX7_carry 49 = .ok (.istore 5, 2) := by decide +kernel
theorem dX7_carry_51 : decode cX7_carry 51 = .ok (.iload 5, 2) := by decide +kernel
theorem dX7_carry_53 : decode cX7_carry 53 = .ok (.aload_n 0, 1) := by decide +kernel
theorem dX7_carry_54 : decode cX7_carry 54 = .ok (.getfield 13, 3) := by decide +kernel
theorem dX7_carry_57 : decode cX7_carry 57 = .ok (.iconst 0, 1) := by decide +kernel
theorem dX7_carry_58 : decode cX7_carry 58 = .ok (.iaload, 1) := by decide +kernel
theorem dX7_carry_59 : decode cX7_carry 59 = .ok (.if_icmp .ge 84, 3) := by decide +kernel
theorem dX7_carry_62 : decode cX7_carry 62 = .ok (.aload_n 0, 1) := by decide +kernel
theorem dX7_carry_63 : decode cX7_carry 63 = .ok (.invokevirtual 170, 3) := by decide +kernel
theorem dX7_carry_66 : decode cX7_carry 66 = .ok (.aload_n 0, 1) := by decide +kernel
theorem dX7_carry_67 : decode cX7_carry 67 = .ok (.iload 5, 2) := by decide +kernel
theorem dX7_carry_69 : decode cX7_carry 69 = .ok (.invokevirtual 149, 3) := by decide +kernel
theorem dX7_carry_72 : decode cX7_carry 72 = .ok (.istore 6, 2) := by decide +kernel
theorem dX7_carry_74 : decode cX7_carry 74 = .ok (.aload_n 0, 1) := by decide +kernel
theorem dX7_carry_75 : decode cX7_carry 75 = .ok (.getfield 44, 3) := by decide +kernel
theorem dX7_carry_78 : decode cX7_carry 78 = .ok (.iload_n 1, 1) := by decide +kernel
theorem dX7_carry_79 : decode cX7_carry 79 = .ok (.iload 6, 2) := by decide +kernel
theorem dX7_carry_81 : decode cX7_carry 81 = .ok (.aload_n 0, 1) := by decide +kernel
theorem dX7_carry_82 : decode cX7_carry 82 = .ok (.getfield 13, 3) := by decide +kernel
theorem dX7_carry_85 : decode cX7_carry 85 = .ok (.iconst 3, 1) := by decide +kernel
theorem dX7_carry_86 : decode cX7_carry 86 = .ok (.iaload, 1) := by decide +kernel
theorem dX7_carry_87 : decode cX7_carry 87 = .ok (.if_icmp .ge 12, 3) := by decide +kernel
theorem dX7_carry_90 : decode cX7_carry 90 = .ok (.aload_n 0, 1) := by decide +kernel
theorem dX7_carry_91 : decode cX7_carry 91 = .ok (.iload 6, 2) := by decide +kernel
theorem dX7_carry_93 : decode cX7_carry 93 = .ok (.invokevirtual 137, 3) := by decide +kernel
theorem dX7_carry_96 : decode cX7_carry 96 = .ok (.goto 4, 3) := by decide +kernel
theorem dX7_carry_99 : decode cX7_carry 99 = .ok (.iconst 0, 1) := by decide +kernel
theorem dX7_carry_100 : decode cX7_carry 100 = .ok (.iastore, 1) := by decide +kernel
theorem dX7_carry_101 : decode cX7_carry 101 = .ok (.aload_n 0, 1) := by decide +kernel
theorem dX7_carry_102 : decode cX7_carry 102 = .ok (.invokevirtual 173, 3) := by decide +kernel
theorem dX7_carry_105 : decode cX7_carry 105 = .ok (.istore 7, 2) := by decide +kernel
theorem dX7_carry_107 : decode cX7_carry 107 = .ok (.iload 7, 2) := by decide +kernel
theorem dX7_carry_109 : decode cX7_carry 109 = .ok (.iload 4, 2) := by decide +kernel
theorem dX7_carry_111 : decode cX7_carry 111 = .ok (.if_icmp .le 8, 3) := by decide +kernel
theorem dX7_carry_114 : decode cX7_carry 114 = .ok (.iload 5, 2) := by decide +kernel
theorem dX7_carry_116 : decode cX7_carry 116 = .ok (.goto 4, 3) := by decide +kernel
theorem dX7_carry_119 : decode cX7_carry 119 = .ok (.iload_n 3, 1) := by decide +kernel
theorem dX7_carry_120 : decode cX7_carry 120 = .ok (.istore_n 3, 1) := by decide +kernel
theorem dX7_carry_121 : decode cX7_carry 121 = .ok (.iload 7, 2) := by decide +kernel
theorem dX7_carry_123 : decode cX7_carry 123 = .ok (.iload 4, 2) := by decide +kernel
theorem dX7_carry_125 : decode cX7_carry 125 = .ok (.if_icmp .le 8, 3) := by decide +kernel
theorem dX7_carry_128 : decode cX7_carry 128 = .ok (.iload 7, 2) := by decide +kernel
theorem dX7_carry_130 : decode cX7_carry 130 = .ok (.goto 5, 3) := by decide +kernel
theorem dX7_carry_133 : decode cX7_carry 133 = .ok (.iload 4, 2) := by decide +kernel
theorem dX7_carry_135 : decode cX7_carry 135 = .ok (.istore 4, 2) := by decide +kernel
theorem dX7_carry_137 : decode cX7_carry 137 = .ok (.iinc 5 1, 3) := by decide +kernel
theorem dX7_carry_140 : decode cX7_carry 140 = .ok (.goto (-89), 3) := by decide +kernel
theorem dX7_carry_143 : decode cX7_carry 143 = .ok (.iload_n 2, 1) := by decide +kernel
theorem dX7_carry_144 : decode cX7_carry 144 = .ok (.ifCond .ne 7, 3) := by decide +kernel
theorem dX7_carry_147 : decode cX7_carry 147 = .ok (.iload_n 3, 1) := by decide +kernel
theorem dX7_carry_148 : decode cX7_carry 148 = .ok (.goto 5, 3) := by decide +kernel
theorem dX7_carry_151 : decode cX7_carry 151 = .ok (.iload 4, 2) := by decide +kernel
theorem dX7_carry_153 : decode cX7_carry 153 = .ok (.ireturn, 1) := by decide +kernel
set_option maxRecDepth 20000 in
theorem ggX7_join_X7_in : GoodIn wsX7_join wsX7_in := goodIn_r _ [6] (by decide +kernel) (by decide +kernel)
set_option maxRecDepth 20000 in
theorem gX7_join_X7_in : GoodIn wsX7_join (va_wsS RX7 63 yX7_in wsX7_in) := goodIn_app (goodIn_of _ (by decide +kernel)) ggX7_join_X7_in
set_option maxRecDepth 20000 in
theorem ggX7_join_X7_ageBy : GoodIn wsX7_join wsX7_ageBy := goodIn_r _ [10, 2, 11, 12, 13, 5, 14, 15, 16, 17, 18, 19, 20, 21, 22, 23, 24, 25, 26, 27, 28, 29, 30, 31, 32, 33, 34, 35, 36, 37, 38, 39, 40, 41, 42] (by decide +kernel) (by decide +kernel)
set_option maxRecDepth 20000 in
theorem gX7_join_X7_ageBy : GoodIn wsX7_join (wsV RX7 134 RX7 yX7_ageBy wsX7_ageBy) := goodIn_app (goodIn_of _ (by decide +kernel)) ggX7_join_X7_ageBy
set_option maxRecDepth 20000 in
theorem ggX7_join_X7_ones : GoodIn wsX7_join wsX7_ones := goodIn_r _ [17] (by decide +kernel) (by decide +kernel)
set_option maxRecDepth 20000 in
theorem gX7_join_X7_ones : GoodIn wsX7_join (va_wsS RX7 128 yX7_ones wsX7_ones) := goodIn_app (goodIn_of _ (by decide +kernel)) ggX7_join_X7_ones
theorem dX7_join_0 : decode cX7_join 0 = .ok (.aload_n 0, 1) := by decide +kernel
theorem dX7_join_1 : decode cX7_join 1 = .ok (.iconst 0, 1) := by decide +kernel
theorem dX7_join_2 : decode cX7_join 2 = .ok (.putfield 59, 3) := by decide +kernel
theorem dX7_join_5 : decode cX7_join 5 = .ok (.iload_n 1, 1) := by decide +kernel
theorem dX7_join_6 : decode cX7_join 6 = .ok (.iconst 0, 1) := by decide +kernel
theorem dX7_join_7 : decode cX7_join 7 = .ok (.sipush 198, 3) := by decide +kernel
theorem dX7_join_10 : decode cX7_join 10 = .ok (.invokestatic 63, 3) := by decide +kernel
theorem dX7_join_13 : decode cX7_join 13 = .ok (.ifCond .ne 5, 3) := by decide +kernel
theorem dX7_join_16 : decode cX7_join 16 = .ok (.iconst (-1), 1) := by decide +kernel
theorem dX7_join_17 : decode cX7_join 17 = .ok (.ireturn, 1) := by decide +kernel
theorem dX7_join_18 : decode cX7_join 18 = .ok (.bipush (-9), 2) := by decide +kernel
theorem dX7_join_20 : decode cX7_join 20 = .ok (.istore_n 2, 1) := by decide +kernel
theorem dX7_join_21 : decode cX7_join 21 = .ok (.iconst 1, 1) := by decide +kernel
theorem dX7_join_22 : decode cX7_join 22 = .ok (.aload_n 0, 1) := by decide +kernel
theorem dX7_join_23 : decode cX7_join 23 = .ok (.getfield 13, 3) := by decide +kernel
theorem dX7_join_26 : decode cX7_join 26 = .ok (.iconst 0, 1) := by decide +kernel
theorem dX7_join_27 : decode cX7_join 27 = .ok (.iaload, 1) := by decide +kernel
theorem dX7_join_28 : decode cX7_join 28 = .ok (.ishl, 1) := by decide +kernel
theorem dX7_join_29 : decode cX7_join 29 = .ok (.iconst 1, 1) := by decide +kernel
theorem dX7_join_30 : decode cX7_join 30 = .ok (.isub, 1) := by decide +kernel
theorem dX7_join_31 : decode cX7_join 31 = .ok (.istore_n 3, 1) := by decide +kernel
theorem dX7_join_32 : decode cX7_join 32 = .ok (.iload_n 3, 1) := by decide +kernel
theorem dX7_join_33 : decode cX7_join 33 = .ok (.ifCond .le 41, 3) := by decide +kernel
theorem dX7_join_36 : decode cX7_join 36 = .ok (.aload_n 0, 1) := by decide +kernel
theorem dX7_join_37 : decode cX7_join 37 = .ok (.iload_n 3, 1) := by decide +kernel
theorem dX7_join_38 : decode cX7_join 38 = .ok (.invokevirtual 134, 3) := by decide +kernel
theorem dX7_join_41 : decode cX7_join 41 = .ok (.iload_n 1, 1) := by decide +kernel
theorem dX7_join_42 : decode cX7_join 42 = .ok (.if_icmp .ne 24, 3) := by decide +kernel
theorem dX7_join_45 : decode cX7_join 45 = .ok (.iload_n 2, 1) := by decide +kernel
theorem dX7_join_46 : decode cX7_join 46 = .ok (.bipush (-9), 2) := by decide +kernel
theorem dX7_join_48 : decode cX7_join 48 = .ok (.if_icmp .eq 14, 3) := by decide +kernel
theorem dX7_join_51 : decode cX7_join 51 = .ok (.iload_n 3, 1) := by decide +kernel
theorem dX7_join_52 : decode cX7_join 52 = .ok (.invokestatic 128, 3) := by decide +kernel
theorem dX7_join_55 : decode cX7_join 55 = .ok (.iload_n 2, 1) := by decide +kernel
theorem dX7_join_56 : decode cX7_join 56 = .ok (.invokestatic 128, 3) := by decide +kernel
theorem dX7_join_59 : decode cX7_join 59 = .ok (.if_icmp .gt 7, 3) := by decide +kernel
theorem dX7_join_62 : decode cX7_join 62 = .ok (.iload_n 3, 1) := by decide +kernel
theorem dX7_join_63 : decode cX7_join 63 = .ok (.goto 4, 3) := by decide +kernel
theorem dX7_join_66 : decode cX7_join 66 = .ok (.iload_n 2, 1) := by decide +kernel
theorem dX7_join_67 : decode cX7_join 67 = .ok (.istore_n 2, 1) := by decide +kernel
theorem dX7_join_68 : decode cX7_join 68 = .ok (.iinc 3 (-1), 3) := by decide +kernel
theorem dX7_join_71 : decode cX7_join 71 = .ok (.goto (-39), 3) := by decide +kernel
theorem dX7_join_74 : decode cX7_join 74 = .ok (.iload_n 2, 1) := by decide +kernel
theorem dX7_join_75 : decode cX7_join 75 = .ok (.ireturn, 1) := by decide +kernel
set_option maxRecDepth 20000 in
theorem ggX7_elder_X7_in : GoodIn wsX7_elder wsX7_in := goodIn_r _ [7] (by decide +kernel) (by decide +kernel)
set_option maxRecDepth 20000 in
theorem gX7_elder_X7_in : GoodIn wsX7_elder (va_wsS RX7 63 yX7_in wsX7_in) := goodIn_app (goodIn_of _ (by decide +kernel)) ggX7_elder_X7_in
set_option maxRecDepth 20000 in
theorem ggX7_elder_X7_has : GoodIn wsX7_elder wsX7_has := goodIn_r _ [10] (by decide +kernel) (by decide +kernel)
set_option maxRecDepth 20000 in
theorem gX7_elder_X7_has : GoodIn wsX7_elder (va_wsS RX7 124 yX7_has wsX7_has) := goodIn_app (goodIn_of _ (by decide +kernel)) ggX7_elder_X7_has
theorem dX7_elder_0 : decode cX7_elder 0 = .ok (.aload_n 0, 1) := by decide +kernel
theorem dX7_elder_1 : decode cX7_elder 1 = .ok (.iconst 0, 1) := by decide +kernel
theorem dX7_elder_2 : decode cX7_elder 2 = .ok (.putfield 59, 3) := by decide +kernel
theorem dX7_elder_5 : decode cX7_elder 5 = .ok (.iload_n 1, 1) := by decide +kernel
theorem dX7_elder_6 : decode cX7_elder 6 = .ok (.iconst 0, 1) := by decide +kernel
theorem dX7_elder_7 : decode cX7_elder 7 = .ok (.iconst 5, 1) := by decide +kernel
theorem dX7_elder_8 : decode cX7_elder 8 = .ok (.invokestatic 63, 3) := by decide +kernel
theorem dX7_elder_11 : decode cX7_elder 11 = .ok (.ifCond .ne 5, 3) := by decide +kernel
theorem dX7_elder_14 : decode cX7_elder 14 = .ok (.iconst (-1), 1) := by decide +kernel
theorem dX7_elder_15 : decode cX7_elder 15 = .ok (.ireturn, 1) := by decide +kernel
theorem dX7_elder_16 : decode cX7_elder 16 = .ok (.iconst 0, 1) := by decide +kernel
theorem dX7_elder_17 : decode cX7_elder 17 = .ok (.istore_n 2, 1) := by decide +kernel
theorem dX7_elder_18 : decode cX7_elder 18 = .ok (.iload_n 2, 1) := by decide +kernel
theorem dX7_elder_19 : decode cX7_elder 19 = .ok (.aload_n 0, 1) := by decide +kernel
theorem dX7_elder_20 : decode cX7_elder 20 = .ok (.getfield 13, 3) := by decide +kernel
theorem dX7_elder_23 : decode cX7_elder 23 = .ok (.iconst 1, 1) := by decide +kernel
theorem dX7_elder_24 : decode cX7_elder 24 = .ok (.iaload, 1) := by decide +kernel
theorem dX7_elder_25 : decode cX7_elder 25 = .ok (.if_icmp .ge 137, 3) := by decide +kernel
theorem dX7_elder_28 : decode cX7_elder 28 = .ok (.iconst 0, 1) := by decide +kernel
theorem dX7_elder_29 : decode cX7_elder 29 = .ok (.istore_n 3, 1) := by decide +kernel
theorem dX7_elder_30 : decode cX7_elder 30 = .ok (.iconst 0, 1) := by decide +kernel
theorem dX7_elder_31 : decode cX7_elder 31 = .ok (.istore 4, 2) := by decide +kernel
theorem dX7_elder_33 : decode cX7_elder 33 = .ok (.iload 4, 2) := by decide +kernel
theorem dX7_elder_35 : decode cX7_elder 35 = .ok (.aload_n 0, 1) := by decide +kernel
theorem dX7_elder_36 : decode cX7_elder 36 = .ok (.getfield 13, 3) := by decide +kernel
theorem dX7_elder_39 : decode cX7_elder 39 = .ok (.iconst 1, 1) := by decide +kernel
theorem dX7_elder_40 : decode cX7_elder 40 = .ok (.iaload, 1) := by decide +kernel
theorem dX7_elder_41 : decode cX7_elder 41 = .ok (.if_icmp .ge 94, 3) := by decide +kernel
theorem dX7_elder_44 : decode cX7_elder 44 = .ok (.aload_n 0, 1) := by decide +kernel
theorem dX7_elder_45 : decode cX7_elder 45 = .ok (.getfield 25, 3) := by decide +kernel
theorem dX7_elder_48 : decode cX7_elder 48 = .ok (.bipush 15, 2) := by decide +kernel
theorem dX7_elder_50 : decode cX7_elder 50 = .ok (.iload 4, 2) := by decide +kernel
theorem dX7_elder_52 : decode cX7_elder 52 = .ok (.iadd, 1) := by decide +kernel
theorem dX7_elder_53 : decode cX7_elder 53 = .ok (.iaload, 1) := by decide +kernel
theorem dX7_elder_54 : decode cX7_elder 54 = .ok (.aload_n 0, 1) := by decide +kernel
theorem dX7_elder_55 : decode cX7_elder 55 = .ok (.getfield 25, 3) := by decide +kernel
theorem dX7_elder_58 : decode cX7_elder 58 = .ok (.bipush 15, 2) := by decide +kernel
theorem dX7_elder_60 : decode cX7_elder 60 = .ok (.iload_n 2, 1) := by decide +kernel
theorem dX7_elder_61 : decode cX7_elder 61 = .ok (.iadd, 1) := by decide +kernel
theorem dX7_elder_62 : decode cX7_elder 62 = .ok (.iaload, 1) := by decide +kernel
theorem dX7_elder_63 : decode cX7_elder 63 = .ok (.if_icmp .gt 31, 3) := by decide +kernel
theorem dX7_elder_66 : decode cX7_elder 66 = .ok (.aload_n 0, 1) := by decide +kernel
theorem dX7_elder_67 : decode cX7_elder 67 = .ok (.getfield 25, 3) := by decide +kernel
theorem dX7_elder_70 : decode cX7_elder 70 = .ok (.bipush 15, 2) := by decide +kernel
theorem dX7_elder_72 : decode cX7_elder 72 = .ok (.iload 4, 2) := by decide +kernel
theorem dX7_elder_74 : decode cX7_elder 74 = .ok (.iadd, 1) := by decide +kernel
theorem dX7_elder_75 : decode cX7_elder 75 = .ok (.iaload, 1) := by decide +kernel
theorem dX7_elder_76 : decode cX7_elder 76 = .ok (.aload_n 0, 1) := by decide +kernel
theorem dX7_elder_77 : decode cX7_elder 77 = .ok (.getfield 25, 3) := by decide +kernel
theorem dX7_elder_80 : decode cX7_elder 80 = .ok (.bipush 15, 2) := by decide +kernel
theorem dX7_elder_82 : decode cX7_elder 82 = .ok (.iload_n 2, 1) := by decide +kernel
theorem dX7_elder_83 : decode cX7_elder 83 = .ok (.iadd, 1) := by decide +kernel
theorem dX7_elder_84 : decode cX7_elder 84 = .ok (.iaload, 1) := by decide +kernel
theorem dX7_elder_85 : decode cX7_elder 85 = .ok (.if_icmp .ne 13, 3) := by decide +kernel
theorem dX7_elder_88 : decode cX7_elder 88 = .ok (.iload 4, 2) := by decide +kernel
theorem dX7_elder_90 : decode cX7_elder 90 = .ok (.iload_n 2, 1) := by decide +kernel
theorem dX7_elder_91 : decode cX7_elder 91 = .ok (.if_icmp .ge 7, 3) := by decide +kernel
theorem dX7_elder_94 : decode cX7_elder 94 = .ok (.iconst 1, 1) := by decide +kernel
theorem dX7_elder_95 : decode cX7_elder 95 = .ok (.goto 4, 3) := by decide +kernel
theorem dX7_elder_98 : decode cX7_elder 98 = .ok (.iconst 0, 1) := by decide +kernel
theorem dX7_elder_99 : decode cX7_elder 99 = .ok (.istore 5, 2) := by decide +kernel
theorem dX7_elder_101 : decode cX7_elder 101 = .ok (.iload_n 3, 1) := by decide +kernel
theorem dX7_elder_102 : decode cX7_elder 102 = .ok (.aload_n 0, 1) := by decide +kernel
theorem dX7_elder_103 : decode cX7_elder 103 = .ok (.getfield 25, 3) := by decide +kernel
theorem dX7_elder_106 : decode cX7_elder 106 = .ok (.bipush 14, 2) := by decide +kernel
theorem dX7_elder_108 : decode cX7_elder 108 = .ok (.iaload, 1) := by decide +kernel
theorem dX7_elder_109 : decode cX7_elder 109 = .ok (.iload 4, 2) := by decide +kernel
theorem dX7_elder_111 : decode cX7_elder 111 = .ok (.invokestatic 124, 3) := by decide +kernel
theorem dX7_elder_114 : decode cX7_elder 114 = .ok (.ifCond .eq 12, 3) := by decide +kernel
theorem dX7_elder_117 : decode cX7_elder 117 = .ok (.iload 5, 2) := by decide +kernel
theorem dX7_elder_119 : decode cX7_elder 119 = .ok (.ifCond .eq 7, 3) := by decide +kernel
theorem dX7_elder_122 : decode cX7_elder 122 = .ok (.iconst 1, 1) := by decide +kernel
theorem dX7_elder_123 : decode cX7_elder 123 = .ok (.goto 4, 3) := by decide +kernel
theorem dX7_elder_126 : decode cX7_elder 126 = .ok (.iconst 0, 1) := by decide +kernel
theorem dX7_elder_127 : decode cX7_elder 127 = .ok (.iadd, 1) := by decide +kernel
theorem dX7_elder_128 : decode cX7_elder 128 = .ok (.istore_n 3, 1) := by decide +kernel
theorem dX7_elder_129 : decode cX7_elder 129 = .ok (.iinc 4 1, 3) := by decide +kernel
theorem dX7_elder_132 : decode cX7_elder 132 = .ok (.goto (-99), 3) := by decide +kernel
theorem dX7_elder_135 : decode cX7_elder 135 = .ok (.aload_n 0, 1) := by decide +kernel
theorem dX7_elder_136 : decode cX7_elder 136 = .ok (.getfield 25, 3) := by decide +kernel
theorem dX7_elder_139 : decode cX7_elder 139 = .ok (.bipush 14, 2) := by decide +kernel
theorem dX7_elder_141 : decode cX7_elder 141 = .ok (.iaload, 1) := by decide +kernel
theorem dX7_elder_142 : decode cX7_elder 142 = .ok (.iload_n 2, 1) := by decide +kernel
theorem dX7_elder_143 : decode cX7_elder 143 = .ok (.invokestatic 124, 3) := by decide +kernel
theorem dX7_elder_146 : decode cX7_elder 146 = .ok (.ifCond .eq 10, 3) := by decide +kernel
theorem dX7_elder_149 : decode cX7_elder 149 = .ok (.iload_n 3, 1) := by decide +kernel
theorem dX7_elder_150 : decode cX7_elder 150 = .ok (.iload_n 1, 1) := by decide +kernel
theorem dX7_elder_151 : decode cX7_elder 151 = .ok (.if_icmp .ne 5, 3) := by decide +kernel
theorem dX7_elder_154 : decode cX7_elder 154 = .ok (.iload_n 2, 1) := by decide +kernel
theorem dX7_elder_155 : decode cX7_elder 155 = .ok (.ireturn, 1) := by decide +kernel
theorem dX7_elder_156 : decode cX7_elder 156 = .ok (.iinc 2 1, 3) := by decide +kernel
theorem dX7_elder_159 : decode cX7_elder 159 = .ok (.goto (-141), 3) := by decide +kernel
theorem dX7_elder_162 : decode cX7_elder 162 = .ok (.bipush (-9), 2) := by decide +kernel
theorem dX7_elder_164 : decode cX7_elder 164 = .ok (.ireturn, 1) := by decide +kernel
theorem dX7_power_0 : decode cX7_power 0 = .ok (.iconst 1, 1) := by decide +kernel
theorem dX7_power_1 : decode cX7_power 1 = .ok (.istore_n 2, 1) := by decide +kernel
theorem dX7_power_2 : decode cX7_power 2 = .ok (.iconst 0, 1) := by decide +kernel
theorem dX7_power_3 : decode cX7_power 3 = .ok (.istore_n 3, 1) := by decide +kernel
theorem dX7_power_4 : decode cX7_power 4 = .ok (.iload_n 3, 1) := by decide +kernel
theorem dX7_power_5 : decode cX7_power 5 = .ok (.iload_n 1, 1) := by decide +kernel
theorem dX7_power_6 : decode cX7_power 6 = .ok (.if_icmp .ge 13, 3) := by decide +kernel
theorem dX7_power_9 : decode cX7_power 9 = .ok (.iload_n 2, 1) := by decide +kernel
theorem dX7_power_10 : decode cX7_power 10 = .ok (.iload_n 0, 1) := by decide +kernel
theorem dX7_power_11 : decode cX7_power 11 = .ok (.imul, 1) := by decide +kernel
theorem dX7_power_12 : decode cX7_power 12 = .ok (.istore_n 2, 1) := by decide +kernel
theorem dX7_power_13 : decode cX7_power 13 = .ok (.iinc 3 1, 3) := by decide +kernel
theorem dX7_power_16 : decode cX7_power 16 = .ok (.goto (-12), 3) := by decide +kernel
theorem dX7_power_19 : decode cX7_power 19 = .ok (.iload_n 2, 1) := by decide +kernel
theorem dX7_power_20 : decode cX7_power 20 = .ok (.ireturn, 1) := by decide +kernel
theorem dX7_gcd_0 : decode cX7_gcd 0 = .ok (.iload_n 0, 1) := by decide +kernel
theorem dX7_gcd_1 : decode cX7_gcd 1 = .ok (.istore_n 2, 1) := by decide +kernel
theorem dX7_gcd_2 : decode cX7_gcd 2 = .ok (.iload_n 1, 1) := by decide +kernel
theorem dX7_gcd_3 : decode cX7_gcd 3 = .ok (.istore_n 3, 1) := by decide +kernel
theorem dX7_gcd_4 : decode cX7_gcd 4 = .ok (.iload_n 3, 1) := by decide +kernel
theorem dX7_gcd_5 : decode cX7_gcd 5 = .ok (.ifCond .eq 16, 3) := by decide +kernel
theorem dX7_gcd_8 : decode cX7_gcd 8 = .ok (.iload_n 2, 1) := by decide +kernel
theorem dX7_gcd_9 : decode cX7_gcd 9 = .ok (.iload_n 3, 1) := by decide +kernel
theorem dX7_gcd_10 : decode cX7_gcd 10 = .ok (.irem, 1) := by decide +kernel
theorem dX7_gcd_11 : decode cX7_gcd 11 = .ok (.istore 4, 2) := by decide +kernel
theorem dX7_gcd_13 : decode cX7_gcd 13 = .ok (.iload_n 3, 1) := by decide +kernel
theorem dX7_gcd_14 : decode cX7_gcd 14 = .ok (.istore_n 2, 1) := by decide +kernel
theorem dX7_gcd_15 : decode cX7_gcd 15 = .ok (.iload 4, 2) := by decide +kernel
theorem dX7_gcd_17 : decode cX7_gcd 17 = .ok (.istore_n 3, 1) := by decide +kernel
theorem dX7_gcd_18 : decode cX7_gcd 18 = .ok (.goto (-14), 3) := by decide +kernel
theorem dX7_gcd_21 : decode cX7_gcd 21 = .ok (.iload_n 2, 1) := by decide +kernel
theorem dX7_gcd_22 : decode cX7_gcd 22 = .ok (.ireturn, 1) := by decide +kernel
set_option maxRecDepth 20000 in
theorem ggX7_odds_X7_isWork : GoodIn wsX7_odds wsX7_isWork := goodIn_r _ [10, 2, 11, 12, 9, 13, 38, 39, 40, 41, 42, 43, 44, 45, 46, 47, 48, 49, 50, 51, 52, 53, 54, 55, 56, 57, 58, 59, 60, 61, 62] (by decide +kernel) (by decide +kernel)
set_option maxRecDepth 20000 in
theorem gX7_odds_X7_isWork : GoodIn wsX7_odds (wsV RX7 155 RX7 yX7_isWork wsX7_isWork) := goodIn_app (goodIn_of _ (by decide +kernel)) ggX7_odds_X7_isWork
set_option maxRecDepth 20000 in
theorem ggX7_odds_X7_in : GoodIn wsX7_odds wsX7_in := goodIn_r _ [13] (by decide +kernel) (by decide +kernel)
set_option maxRecDepth 20000 in
theorem gX7_odds_X7_in : GoodIn wsX7_odds (va_wsS RX7 63 yX7_in wsX7_in) := goodIn_app (goodIn_of _ (by decide +kernel)) ggX7_odds_X7_in
set_option maxRecDepth 20000 in
theorem ggX7_odds_X7_ones : GoodIn wsX7_odds wsX7_ones := goodIn_r _ [16] (by decide +kernel) (by decide +kernel)
set_option maxRecDepth 20000 in
theorem gX7_odds_X7_ones : GoodIn wsX7_odds (va_wsS RX7 128 yX7_ones wsX7_ones) := goodIn_app (goodIn_of _ (by decide +kernel)) ggX7_odds_X7_ones
set_option maxRecDepth 20000 in
theorem ggX7_odds_X7_ageOf : GoodIn wsX7_odds wsX7_ageOf := goodIn_r _ [20, 21, 22, 23, 9, 24, 2, 3, 25, 26, 27, 28, 29, 30, 31, 14, 15, 16, 38, 39, 40, 41, 42, 43, 44, 45, 46, 47, 48, 49, 50, 51, 52, 53, 54, 55, 56, 57, 58, 59, 60, 61, 62] (by decide +kernel) (by decide +kernel)
set_option maxRecDepth 20000 in
theorem gX7_odds_X7_ageOf : GoodIn wsX7_odds (wsV RX7 149 RX7 yX7_ageOf wsX7_ageOf) := goodIn_app (goodIn_of _ (by decide +kernel)) ggX7_odds_X7_ageOf
set_option maxRecDepth 20000 in
theorem ggX7_odds_X7_power : GoodIn wsX7_odds wsX7_power := goodIn_r _ [34] (by decide +kernel) (by decide +kernel)
set_option maxRecDepth 20000 in
theorem gX7_odds_X7_power : GoodIn wsX7_odds (va_wsS RX7 180 yX7_power wsX7_power) := goodIn_app (goodIn_of _ (by decide +kernel)) ggX7_odds_X7_power
set_option maxRecDepth 20000 in
theorem ggX7_odds_X7_gcd : GoodIn wsX7_odds wsX7_gcd := goodIn_r _ [37] (by decide +kernel) (by decide +kernel)
set_option maxRecDepth 20000 in
theorem gX7_odds_X7_gcd : GoodIn wsX7_odds (va_wsS RX7 183 yX7_gcd wsX7_gcd) := goodIn_app (goodIn_of _ (by decide +kernel)) ggX7_odds_X7_gcd
theorem dX7_odds_0 : decode cX7_odds 0 = .ok (.aload_n 0, 1) := by decide +kernel
theorem dX7_odds_1 : decode cX7_odds 1 = .ok (.iconst 0, 1) := by decide +kernel
theorem dX7_odds_2 : decode cX7_odds 2 = .ok (.putfield 59, 3) := by decide +kernel
theorem dX7_odds_5 : decode cX7_odds 5 = .ok (.aload_n 0, 1) := by decide +kernel
theorem dX7_odds_6 : decode cX7_odds 6 = .ok (.iload_n 1, 1) := by decide +kernel
theorem dX7_odds_7 : decode cX7_odds 7 = .ok (.invokevirtual 155, 3) := by decide +kernel
theorem dX7_odds_10 : decode cX7_odds 10 = .ok (.ifCond .eq 12, 3) := by decide +kernel
theorem dX7_odds_13 : decode cX7_odds 13 = .ok (.iload_n 2, 1) := by decide +kernel
theorem dX7_odds_14 : decode cX7_odds 14 = .ok (.iconst 0, 1) := by decide +kernel
theorem dX7_odds_15 : decode cX7_odds 15 = .ok (.iconst 1, 1) := by decide +kernel
theorem dX7_odds_16 : decode cX7_odds 16 = .ok (.invokestatic 63, 3) := by decide +kernel
theorem dX7_odds_19 : decode cX7_odds 19 = .ok (.ifCond .ne 5, 3) := by decide +kernel
theorem dX7_odds_22 : decode cX7_odds 22 = .ok (.iconst (-1), 1) := by decide +kernel
theorem dX7_odds_23 : decode cX7_odds 23 = .ok (.ireturn, 1) := by decide +kernel
theorem dX7_odds_24 : decode cX7_odds 24 = .ok (.aload_n 0, 1) := by decide +kernel
theorem dX7_odds_25 : decode cX7_odds 25 = .ok (.getfield 13, 3) := by decide +kernel
theorem dX7_odds_28 : decode cX7_odds 28 = .ok (.iconst 1, 1) := by decide +kernel
theorem dX7_odds_29 : decode cX7_odds 29 = .ok (.iaload, 1) := by decide +kernel
theorem dX7_odds_30 : decode cX7_odds 30 = .ok (.aload_n 0, 1) := by decide +kernel
theorem dX7_odds_31 : decode cX7_odds 31 = .ok (.getfield 25, 3) := by decide +kernel
theorem dX7_odds_34 : decode cX7_odds 34 = .ok (.bipush 13, 2) := by decide +kernel
theorem dX7_odds_36 : decode cX7_odds 36 = .ok (.iaload, 1) := by decide +kernel
theorem dX7_odds_37 : decode cX7_odds 37 = .ok (.invokestatic 128, 3) := by decide +kernel
theorem dX7_odds_40 : decode cX7_odds 40 = .ok (.isub, 1) := by decide +kernel
theorem dX7_odds_41 : decode cX7_odds 41 = .ok (.istore_n 3, 1) := by decide +kernel
theorem dX7_odds_42 : decode cX7_odds 42 = .ok (.iconst 0, 1) := by decide +kernel
theorem dX7_odds_43 : decode cX7_odds 43 = .ok (.istore 4, 2) := by decide +kernel
theorem dX7_odds_45 : decode cX7_odds 45 = .ok (.iconst 0, 1) := by decide +kernel
theorem dX7_odds_46 : decode cX7_odds 46 = .ok (.istore 5, 2) := by decide +kernel
theorem dX7_odds_48 : decode cX7_odds 48 = .ok (.iload 5, 2) := by decide +kernel
theorem dX7_odds_50 : decode cX7_odds 50 = .ok (.aload_n 0, 1) := by decide +kernel
theorem dX7_odds_51 : decode cX7_odds 51 = .ok (.getfield 13, 3) := by decide +kernel
theorem dX7_odds_54 : decode cX7_odds 54 = .ok (.iconst 0, 1) := by decide +kernel
theorem dX7_odds_55 : decode cX7_odds 55 = .ok (.iaload, 1) := by decide +kernel
theorem dX7_odds_56 : decode cX7_odds 56 = .ok (.if_icmp .ge 58, 3) := by decide +kernel
theorem dX7_odds_59 : decode cX7_odds 59 = .ok (.aload_n 0, 1) := by decide +kernel
theorem dX7_odds_60 : decode cX7_odds 60 = .ok (.iload 5, 2) := by decide +kernel
theorem dX7_odds_62 : decode cX7_odds 62 = .ok (.invokevirtual 149, 3) := by decide +kernel
theorem dX7_odds_65 : decode cX7_odds 65 = .ok (.istore 6, 2) := by decide +kernel
theorem dX7_odds_67 : decode cX7_odds 67 = .ok (.iload 4, 2) := by decide +kernel
theorem dX7_odds_69 : decode cX7_odds 69 = .ok (.iload 6, 2) := by decide +kernel
theorem dX7_odds_71 : decode cX7_odds 71 = .ok (.aload_n 0, 1) := by decide +kernel
theorem dX7_odds_72 : decode cX7_odds 72 = .ok (.getfield 13, 3) := by decide +kernel
theorem dX7_odds_75 : decode cX7_odds 75 = .ok (.iconst 3, 1) := by decide +kernel
theorem dX7_odds_76 : decode cX7_odds 76 = .ok (.iaload, 1) := by decide +kernel
theorem dX7_odds_77 : decode cX7_odds 77 = .ok (.if_icmp .ge 27, 3) := by decide +kernel
theorem dX7_odds_80 : decode cX7_odds 80 = .ok (.iload 6, 2) := by decide +kernel
theorem dX7_odds_82 : decode cX7_odds 82 = .ok (.aload_n 0, 1) := by decide +kernel
theorem dX7_odds_83 : decode cX7_odds 83 = .ok (.getfield 19, 3) := by decide +kernel
theorem dX7_odds_86 : decode cX7_odds 86 = .ok (.iload_n 1, 1) := by decide +kernel
theorem dX7_odds_87 : decode cX7_odds 87 = .ok (.iaload, 1) := by decide +kernel
theorem dX7_odds_88 : decode cX7_odds 88 = .ok (.aload_n 0, 1) := by decide +kernel
theorem dX7_odds_89 : decode cX7_odds 89 = .ok (.getfield 22, 3) := by decide +kernel
theorem dX7_odds_92 : decode cX7_odds 92 = .ok (.iload_n 1, 1) := by decide +kernel
theorem dX7_odds_93 : decode cX7_odds 93 = .ok (.iaload, 1) := by decide +kernel
theorem dX7_odds_94 : decode cX7_odds 94 = .ok (.invokestatic 63, 3) := by decide +kernel
theorem dX7_odds_97 : decode cX7_odds 97 = .ok (.ifCond .eq 7, 3) := by decide +kernel
theorem dX7_odds_100 : decode cX7_odds 100 = .ok (.iconst 0, 1) := by decide +kernel
theorem dX7_odds_101 : decode cX7_odds 101 = .ok (.goto 4, 3) := by decide +kernel
theorem dX7_odds_104 : decode cX7_odds 104 = .ok (.iconst 1, 1) := by decide +kernel
theorem dX7_odds_105 : decode cX7_odds 105 = .ok (.iadd, 1) := by decide +kernel
theorem dX7_odds_106 : decode cX7_odds 106 = .ok (.istore 4, 2) := by decide +kernel
theorem dX7_odds_108 : decode cX7_odds 108 = .ok (.iinc 5 1, 3) := by decide +kernel
theorem dX7_odds_111 : decode cX7_odds 111 = .ok (.goto (-63), 3) := by decide +kernel
theorem dX7_odds_114 : decode cX7_odds 114 = .ok (.aload_n 0, 1) := by decide +kernel
theorem dX7_odds_115 : decode cX7_odds 115 = .ok (.getfield 13, 3) := by decide +kernel
theorem dX7_odds_118 : decode cX7_odds 118 = .ok (.iconst 0, 1) := by decide +kernel
theorem dX7_odds_119 : decode cX7_odds 119 = .ok (.iaload, 1) := by decide +kernel
theorem dX7_odds_120 : decode cX7_odds 120 = .ok (.ifCond .ne 7, 3) := by decide +kernel
theorem dX7_odds_123 : decode cX7_odds 123 = .ok (.iconst 1, 1) := by decide +kernel
theorem dX7_odds_124 : decode cX7_odds 124 = .ok (.goto 13, 3) := by decide +kernel
theorem dX7_odds_127 : decode cX7_odds 127 = .ok (.aload_n 0, 1) := by decide +kernel
theorem dX7_odds_128 : decode cX7_odds 128 = .ok (.getfield 13, 3) := by decide +kernel
theorem dX7_odds_131 : decode cX7_odds 131 = .ok (.iconst 0, 1) := by decide +kernel
theorem dX7_odds_132 : decode cX7_odds 132 = .ok (.iaload, 1) := by decide +kernel
theorem dX7_odds_133 : decode cX7_odds 133 = .ok (.iload_n 3, 1) := by decide +kernel
theorem dX7_odds_134 : decode cX7_odds 134 = .ok (.invokestatic 180, 3) := by decide +kernel
theorem dX7_odds_137 : decode cX7_odds 137 = .ok (.istore 5, 2) := by decide +kernel
theorem dX7_odds_139 : decode cX7_odds 139 = .ok (.aload_n 0, 1) := by decide +kernel
theorem dX7_odds_140 : decode cX7_odds 140 = .ok (.getfield 13, 3) := by decide +kernel
theorem dX7_odds_143 : decode cX7_odds 143 = .ok (.iconst 0, 1) := by decide +kernel
theorem dX7_odds_144 : decode cX7_odds 144 = .ok (.iaload, 1) := by decide +kernel
theorem dX7_odds_145 : decode cX7_odds 145 = .ok (.ifCond .ne 7, 3) := by decide +kernel
theorem dX7_odds_148 : decode cX7_odds 148 = .ok (.iconst 0, 1) := by decide +kernel
theorem dX7_odds_149 : decode cX7_odds 149 = .ok (.goto 12, 3) := by decide +kernel
theorem dX7_odds_152 : decode cX7_odds 152 = .ok (.iload 5, 2) := by decide +kernel
theorem dX7_odds_154 : decode cX7_odds 154 = .ok (.iload 4, 2) := by decide +kernel
theorem dX7_odds_156 : decode cX7_odds 156 = .ok (.iload_n 3, 1) := by decide +kernel
theorem dX7_odds_157 : decode cX7_odds 157 = .ok (.invokestatic 180, 3) := by decide +kernel
theorem dX7_odds_160 : decode cX7_odds 160 = .ok (.isub, 1) := by decide +kernel
theorem dX7_odds_161 : decode cX7_odds 161 = .ok (.istore 6, 2) := by decide +kernel
theorem dX7_odds_163 : decode cX7_odds 163 = .ok (.iload 6, 2) := by decide +kernel
theorem dX7_odds_165 : decode cX7_odds 165 = .ok (.iload 5, 2) := by decide +kernel
theorem dX7_odds_167 : decode cX7_odds 167 = .ok (.invokestatic 183, 3) := by decide +kernel
theorem dX7_odds_170 : decode cX7_odds 170 = .ok (.istore 7, 2) := by decide +kernel
theorem dX7_odds_172 : decode cX7_odds 172 = .ok (.iload_n 2, 1) := by decide +kernel
theorem dX7_odds_173 : decode cX7_odds 173 = .ok (.ifCond .ne 11, 3) := by decide +kernel
theorem dX7_odds_176 : decode cX7_odds 176 = .ok (.iload 6, 2) := by decide +kernel
theorem dX7_odds_178 : decode cX7_odds 178 = .ok (.iload 7, 2) := by decide +kernel
theorem dX7_odds_180 : decode cX7_odds 180 = .ok (.idiv, 1) := by decide +kernel
theorem dX7_odds_181 : decode cX7_odds 181 = .ok (.goto 8, 3) := by decide +kernel
theorem dX7_odds_184 : decode cX7_odds 184 = .ok (.iload 5, 2) := by decide +kernel
theorem dX7_odds_186 : decode cX7_odds 186 = .ok (.iload 7, 2) := by decide +kernel
theorem dX7_odds_188 : decode cX7_odds 188 = .ok (.idiv, 1) := by decide +kernel
theorem dX7_odds_189 : decode cX7_odds 189 = .ok (.ireturn, 1) := by decide +kernel
set_option maxRecDepth 20000 in
theorem ggX7_sees_X7_isWork : GoodIn wsX7_sees wsX7_isWork := goodIn_r _ [9, 10, 11, 12, 8, 13, 14, 15, 16, 17, 18, 19, 20, 21, 22, 23, 24, 25, 26, 27, 28, 29, 30, 31, 32, 33, 34, 35, 36, 37, 38] (by decide +kernel) (by decide +kernel)
set_option maxRecDepth 20000 in
theorem gX7_sees_X7_isWork : GoodIn wsX7_sees (wsV RX7 155 RX7 yX7_isWork wsX7_isWork) := goodIn_app (goodIn_of _ (by decide +kernel)) ggX7_sees_X7_isWork
set_option maxRecDepth 20000 in
theorem ggX7_sees_X7_in : GoodIn wsX7_sees wsX7_in := goodIn_r _ [13] (by decide +kernel) (by decide +kernel)
set_option maxRecDepth 20000 in
theorem gX7_sees_X7_in : GoodIn wsX7_sees (va_wsS RX7 63 yX7_in wsX7_in) := goodIn_app (goodIn_of _ (by decide +kernel)) ggX7_sees_X7_in
theorem dX7_sees_0 : decode cX7_sees 0 = .ok (.aload_n 0, 1) := by decide +kernel
theorem dX7_sees_1 : decode cX7_sees 1 = .ok (.iconst 0, 1) := by decide +kernel
theorem dX7_sees_2 : decode cX7_sees 2 = .ok (.putfield 59, 3) := by decide +kernel
theorem dX7_sees_5 : decode cX7_sees 5 = .ok (.aload_n 0, 1) := by decide +kernel
theorem dX7_sees_6 : decode cX7_sees 6 = .ok (.iload_n 1, 1) := by decide +kernel
theorem dX7_sees_7 : decode cX7_sees 7 = .ok (.invokevirtual 155, 3) := by decide +kernel
theorem dX7_sees_10 : decode cX7_sees 10 = .ok (.ifCond .eq 12, 3) := by decide +kernel
theorem dX7_sees_13 : decode cX7_sees 13 = .ok (.iload_n 2, 1) := by decide +kernel
theorem dX7_sees_14 : decode cX7_sees 14 = .ok (.iconst 0, 1) := by decide +kernel
theorem dX7_sees_15 : decode cX7_sees 15 = .ok (.iconst 1, 1) := by decide +kernel
theorem dX7_sees_16 : decode cX7_sees 16 = .ok (.invokestatic 63, 3) := by decide +kernel
theorem dX7_sees_19 : decode cX7_sees 19 = .ok (.ifCond .ne 5, 3) := by decide +kernel
theorem dX7_sees_22 : decode cX7_sees 22 = .ok (.iconst (-1), 1) := by decide +kernel
theorem dX7_sees_23 : decode cX7_sees 23 = .ok (.ireturn, 1) := by decide +kernel
theorem dX7_sees_24 : decode cX7_sees 24 = .ok (.aload_n 0, 1) := by decide +kernel
theorem dX7_sees_25 : decode cX7_sees 25 = .ok (.getfield 118, 3) := by decide +kernel
theorem dX7_sees_28 : decode cX7_sees 28 = .ok (.bipush 6, 2) := by decide +kernel
theorem dX7_sees_30 : decode cX7_sees 30 = .ok (.if_icmp .ne 6, 3) := by decide +kernel
theorem dX7_sees_33 : decode cX7_sees 33 = .ok (.bipush (-3), 2) := by decide +kernel
theorem dX7_sees_35 : decode cX7_sees 35 = .ok (.ireturn, 1) := by decide +kernel
theorem dX7_sees_36 : decode cX7_sees 36 = .ok (.aload_n 0, 1) := by decide +kernel
theorem dX7_sees_37 : decode cX7_sees 37 = .ok (.getfield 38, 3) := by decide +kernel
theorem dX7_sees_40 : decode cX7_sees 40 = .ok (.aload_n 0, 1) := by decide +kernel
theorem dX7_sees_41 : decode cX7_sees 41 = .ok (.getfield 118, 3) := by decide +kernel
theorem dX7_sees_44 : decode cX7_sees 44 = .ok (.iload_n 1, 1) := by decide +kernel
theorem dX7_sees_45 : decode cX7_sees 45 = .ok (.iastore, 1) := by decide +kernel
theorem dX7_sees_46 : decode cX7_sees 46 = .ok (.aload_n 0, 1) := by decide +kernel
theorem dX7_sees_47 : decode cX7_sees 47 = .ok (.getfield 41, 3) := by decide +kernel
theorem dX7_sees_50 : decode cX7_sees 50 = .ok (.aload_n 0, 1) := by decide +kernel
theorem dX7_sees_51 : decode cX7_sees 51 = .ok (.getfield 118, 3) := by decide +kernel
theorem dX7_sees_54 : decode cX7_sees 54 = .ok (.iload_n 2, 1) := by decide +kernel
theorem dX7_sees_55 : decode cX7_sees 55 = .ok (.iastore, 1) := by decide +kernel
theorem dX7_sees_56 : decode cX7_sees 56 = .ok (.aload_n 0, 1) := by decide +kernel
theorem dX7_sees_57 : decode cX7_sees 57 = .ok (.dup, 1) := by decide +kernel
theorem dX7_sees_58 : decode cX7_sees 58 = .ok (.getfield 118, 3) := by decide +kernel
theorem dX7_sees_61 : decode cX7_sees 61 = .ok (.iconst 1, 1) := by decide +kernel
theorem dX7_sees_62 : decode cX7_sees 62 = .ok (.iadd, 1) := by decide +kernel
theorem dX7_sees_63 : decode cX7_sees 63 = .ok (.putfield 118, 3) := by decide +kernel
theorem dX7_sees_66 : decode cX7_sees 66 = .ok (.aload_n 0, 1) := by decide +kernel
theorem dX7_sees_67 : decode cX7_sees 67 = .ok (.getfield 118, 3) := by decide +kernel
theorem dX7_sees_70 : decode cX7_sees 70 = .ok (.ireturn, 1) := by decide +kernel
theorem dX7_forget_0 : decode cX7_forget 0 = .ok (.aload_n 0, 1) := by decide +kernel
theorem dX7_forget_1 : decode cX7_forget 1 = .ok (.iconst 0, 1) := by decide +kernel
theorem dX7_forget_2 : decode cX7_forget 2 = .ok (.putfield 59, 3) := by decide +kernel
theorem dX7_forget_5 : decode cX7_forget 5 = .ok (.aload_n 0, 1) := by decide +kernel
theorem dX7_forget_6 : decode cX7_forget 6 = .ok (.getfield 118, 3) := by decide +kernel
theorem dX7_forget_9 : decode cX7_forget 9 = .ok (.istore_n 1, 1) := by decide +kernel
theorem dX7_forget_10 : decode cX7_forget 10 = .ok (.aload_n 0, 1) := by decide +kernel
theorem dX7_forget_11 : decode cX7_forget 11 = .ok (.iconst 0, 1) := by decide +kernel
theorem dX7_forget_12 : decode cX7_forget 12 = .ok (.putfield 118, 3) := by decide +kernel
theorem dX7_forget_15 : decode cX7_forget 15 = .ok (.iload_n 1, 1) := by decide +kernel
theorem dX7_forget_16 : decode cX7_forget 16 = .ok (.ireturn, 1) := by decide +kernel
set_option maxRecDepth 20000 in
theorem ggX7_canBe_X7_worksAt : GoodIn wsX7_canBe wsX7_worksAt := goodIn_r _ [8, 9, 10, 11, 12, 13, 7, 14, 15, 16, 17, 18, 19, 20, 21, 22, 23, 24, 25, 26, 27, 28, 29, 30, 31, 32, 33, 34, 35, 36, 37, 38, 39] (by decide +kernel) (by decide +kernel)
set_option maxRecDepth 20000 in
theorem gX7_canBe_X7_worksAt : GoodIn wsX7_canBe (wsV RX7 137 RX7 yX7_worksAt wsX7_worksAt) := goodIn_app (goodIn_of _ (by decide +kernel)) ggX7_canBe_X7_worksAt
theorem dX7_canBe_0 : decode cX7_canBe 0 = .ok (.iconst 1, 1) := by decide +kernel
theorem dX7_canBe_1 : decode cX7_canBe 1 = .ok (.istore_n 2, 1) := by decide +kernel
theorem dX7_canBe_2 : decode cX7_canBe 2 = .ok (.iconst 0, 1) := by decide +kernel
theorem dX7_canBe_3 : decode cX7_canBe 3 = .ok (.istore_n 3, 1) := by decide +kernel
theorem dX7_canBe_4 : decode cX7_canBe 4 = .ok (.iload_n 3, 1) := by decide +kernel
theorem dX7_canBe_5 : decode cX7_canBe 5 = .ok (.aload_n 0, 1) := by decide +kernel
theorem dX7_canBe_6 : decode cX7_canBe 6 = .ok (.getfield 118, 3) := by decide +kernel
theorem dX7_canBe_9 : decode cX7_canBe 9 = .ok (.if_icmp .ge 42, 3) := by decide +kernel
theorem dX7_canBe_12 : decode cX7_canBe 12 = .ok (.iload_n 2, 1) := by decide +kernel
theorem dX7_canBe_13 : decode cX7_canBe 13 = .ok (.ifCond .eq 30, 3) := by decide +kernel
theorem dX7_canBe_16 : decode cX7_canBe 16 = .ok (.aload_n 0, 1) := by decide +kernel
theorem dX7_canBe_17 : decode cX7_canBe 17 = .ok (.iload_n 1, 1) := by decide +kernel
theorem dX7_canBe_18 : decode cX7_canBe 18 = .ok (.invokevirtual 137, 3) := by decide +kernel
theorem dX7_canBe_21 : decode cX7_canBe 21 = .ok (.aload_n 0, 1) := by decide +kernel
theorem dX7_canBe_22 : decode cX7_canBe 22 = .ok (.getfield 38, 3) := by decide +kernel
theorem dX7_canBe_25 : decode cX7_canBe 25 = .ok (.iload_n 3, 1) := by decide +kernel
theorem dX7_canBe_26 : decode cX7_canBe 26 = .ok (.iaload, 1) := by decide +kernel
theorem dX7_canBe_27 : decode cX7_canBe 27 = .ok (.ishr, 1) := by decide +kernel
theorem dX7_canBe_28 : decode cX7_canBe 28 = .ok (.iconst 1, 1) := by decide +kernel
theorem dX7_canBe_29 : decode cX7_canBe 29 = .ok (.iand, 1) := by decide +kernel
theorem dX7_canBe_30 : decode cX7_canBe 30 = .ok (.aload_n 0, 1) := by decide +kernel
theorem dX7_canBe_31 : decode cX7_canBe 31 = .ok (.getfield 41, 3) := by decide +kernel
theorem dX7_canBe_34 : decode cX7_canBe 34 = .ok (.iload_n 3, 1) := by decide +kernel
theorem dX7_canBe_35 : decode cX7_canBe 35 = .ok (.iaload, 1) := by decide +kernel
theorem dX7_canBe_36 : decode cX7_canBe 36 = .ok (.if_icmp .ne 7, 3) := by decide +kernel
theorem dX7_canBe_39 : decode cX7_canBe 39 = .ok (.iconst 1, 1) := by decide +kernel
theorem dX7_canBe_40 : decode cX7_canBe 40 = .ok (.goto 4, 3) := by decide +kernel
theorem dX7_canBe_43 : decode cX7_canBe 43 = .ok (.iconst 0, 1) := by decide +kernel
theorem dX7_canBe_44 : decode cX7_canBe 44 = .ok (.istore_n 2, 1) := by decide +kernel
theorem dX7_canBe_45 : decode cX7_canBe 45 = .ok (.iinc 3 1, 3) := by decide +kernel
theorem dX7_canBe_48 : decode cX7_canBe 48 = .ok (.goto (-44), 3) := by decide +kernel
theorem dX7_canBe_51 : decode cX7_canBe 51 = .ok (.iload_n 2, 1) := by decide +kernel
theorem dX7_canBe_52 : decode cX7_canBe 52 = .ok (.ireturn, 1) := by decide +kernel
set_option maxRecDepth 20000 in
theorem ggX7_ages_X7_in : GoodIn wsX7_ages wsX7_in := goodIn_r _ [5] (by decide +kernel) (by decide +kernel)
set_option maxRecDepth 20000 in
theorem gX7_ages_X7_in : GoodIn wsX7_ages (va_wsS RX7 63 yX7_in wsX7_in) := goodIn_app (goodIn_of _ (by decide +kernel)) ggX7_ages_X7_in
set_option maxRecDepth 20000 in
theorem ggX7_ages_X7_canBe : GoodIn wsX7_ages wsX7_canBe := goodIn_r _ [9, 10, 11, 12, 13, 14, 15, 4, 16, 17, 18, 19, 2, 3, 5, 20, 21, 22, 23, 24, 25, 26, 27, 28, 29, 30, 31, 32, 33, 34, 35, 36, 37, 38, 39, 40, 41, 42, 43, 44] (by decide +kernel) (by decide +kernel)
set_option maxRecDepth 20000 in
theorem gX7_ages_X7_canBe : GoodIn wsX7_ages (wsV RX7 186 RX7 yX7_canBe wsX7_canBe) := goodIn_app (goodIn_of _ (by decide +kernel)) ggX7_ages_X7_canBe
theorem dX7_ages_0 : decode cX7_ages 0 = .ok (.aload_n 0, 1) := by decide +kernel
theorem dX7_ages_1 : decode cX7_ages 1 = .ok (.iconst 0, 1) := by decide +kernel
theorem dX7_ages_2 : decode cX7_ages 2 = .ok (.putfield 59, 3) := by decide +kernel
theorem dX7_ages_5 : decode cX7_ages 5 = .ok (.iload_n 1, 1) := by decide +kernel
theorem dX7_ages_6 : decode cX7_ages 6 = .ok (.iconst 0, 1) := by decide +kernel
theorem dX7_ages_7 : decode cX7_ages 7 = .ok (.iconst 2, 1) := by decide +kernel
theorem dX7_ages_8 : decode cX7_ages 8 = .ok (.invokestatic 63, 3) := by decide +kernel
theorem dX7_ages_11 : decode cX7_ages 11 = .ok (.ifCond .ne 5, 3) := by decide +kernel
theorem dX7_ages_14 : decode cX7_ages 14 = .ok (.iconst (-1), 1) := by decide +kernel
theorem dX7_ages_15 : decode cX7_ages 15 = .ok (.ireturn, 1) := by decide +kernel
theorem dX7_ages_16 : decode cX7_ages 16 = .ok (.iconst 0, 1) := by decide +kernel
theorem dX7_ages_17 : decode cX7_ages 17 = .ok (.istore_n 2, 1) := by decide +kernel
theorem dX7_ages_18 : decode cX7_ages 18 = .ok (.bipush (-9), 2) := by decide +kernel
theorem dX7_ages_20 : decode cX7_ages 20 = .ok (.istore_n 3, 1) := by decide +kernel
theorem dX7_ages_21 : decode cX7_ages 21 = .ok (.bipush (-9), 2) := by decide +kernel
theorem dX7_ages_23 : decode cX7_ages 23 = .ok (.istore 4, 2) := by decide +kernel
theorem dX7_ages_25 : decode cX7_ages 25 = .ok (.iconst 0, 1) := by decide +kernel
theorem dX7_ages_26 : decode cX7_ages 26 = .ok (.istore 5, 2) := by decide +kernel
theorem dX7_ages_28 : decode cX7_ages 28 = .ok (.iload 5, 2) := by decide +kernel
theorem dX7_ages_30 : decode cX7_ages 30 = .ok (.bipush 100, 2) := by decide +kernel
theorem dX7_ages_32 : decode cX7_ages 32 = .ok (.if_icmp .ge 36, 3) := by decide +kernel
theorem dX7_ages_35 : decode cX7_ages 35 = .ok (.aload_n 0, 1) := by decide +kernel
theorem dX7_ages_36 : decode cX7_ages 36 = .ok (.iload 5, 2) := by decide +kernel
theorem dX7_ages_38 : decode cX7_ages 38 = .ok (.invokevirtual 186, 3) := by decide +kernel
theorem dX7_ages_41 : decode cX7_ages 41 = .ok (.ifCond .eq 21, 3) := by decide +kernel
theorem dX7_ages_44 : decode cX7_ages 44 = .ok (.iload_n 2, 1) := by decide +kernel
theorem dX7_ages_45 : decode cX7_ages 45 = .ok (.ifCond .ne 8, 3) := by decide +kernel
theorem dX7_ages_48 : decode cX7_ages 48 = .ok (.iload 5, 2) := by decide +kernel
theorem dX7_ages_50 : decode cX7_ages 50 = .ok (.goto 4, 3) := by decide +kernel
theorem dX7_ages_53 : decode cX7_ages 53 = .ok (.iload_n 3, 1) := by decide +kernel
theorem dX7_ages_54 : decode cX7_ages 54 = .ok (.istore_n 3, 1) := by decide +kernel
theorem dX7_ages_55 : decode cX7_ages 55 = .ok (.iload 5, 2) := by decide +kernel
theorem dX7_ages_57 : decode cX7_ages 57 = .ok (.istore 4, 2) := by decide +kernel
theorem dX7_ages_59 : decode cX7_ages 59 = .ok (.iinc 2 1, 3) := by decide +kernel
theorem dX7_ages_62 : decode cX7_ages 62 = .ok (.iinc 5 1, 3) := by decide +kernel
theorem dX7_ages_65 : decode cX7_ages 65 = .ok (.goto (-37), 3) := by decide +kernel
theorem dX7_ages_68 : decode cX7_ages 68 = .ok (.iload_n 1, 1) := by decide +kernel
theorem dX7_ages_69 : decode cX7_ages 69 = .ok (.ifCond .ne 7, 3) := by decide +kernel
theorem dX7_ages_72 : decode cX7_ages 72 = .ok (.iload_n 2, 1) := by decide +kernel
theorem dX7_ages_73 : decode cX7_ages 73 = .ok (.goto 14, 3) := by decide +kernel
theorem dX7_ages_76 : decode cX7_ages 76 = .ok (.iload_n 1, 1) := by decide +kernel
theorem dX7_ages_77 : decode cX7_ages 77 = .ok (.iconst 1, 1) := by decide +kernel
theorem dX7_ages_78 : decode cX7_ages 78 = .ok (.if_icmp .ne 7, 3) := by decide +kernel
theorem dX7_ages_81 : decode cX7_ages 81 = .ok (.iload_n 3, 1) := by decide +kernel
theorem dX7_ages_82 : decode cX7_ages 82 = .ok (.goto 5, 3) := by decide +kernel
theorem dX7_ages_85 : decode cX7_ages 85 = .ok (.iload 4, 2) := by decide +kernel
theorem dX7_ages_87 : decode cX7_ages 87 = .ok (.ireturn, 1) := by decide +kernel
set_option maxRecDepth 20000 in
theorem ggX7_next_X7_canBe : GoodIn wsX7_next wsX7_canBe := goodIn_r _ [7, 8, 9, 10, 11, 12, 13, 6, 14, 2, 15, 16, 17, 18, 19, 23, 24, 25, 26, 27, 28, 29, 30, 31, 32, 33, 34, 35, 36, 37, 38, 39, 40, 41, 42, 43, 44, 45, 46, 47] (by decide +kernel) (by decide +kernel)
set_option maxRecDepth 20000 in
theorem gX7_next_X7_canBe : GoodIn wsX7_next (wsV RX7 186 RX7 yX7_canBe wsX7_canBe) := goodIn_app (goodIn_of _ (by decide +kernel)) ggX7_next_X7_canBe
set_option maxRecDepth 20000 in
theorem ggX7_next_X7_worksAt : GoodIn wsX7_next wsX7_worksAt := goodIn_r _ [14, 2, 15, 16, 17, 18, 6, 19, 23, 24, 25, 26, 27, 28, 29, 30, 31, 32, 33, 34, 35, 36, 37, 38, 39, 40, 41, 42, 43, 44, 45, 46, 47] (by decide +kernel) (by decide +kernel)
set_option maxRecDepth 20000 in
theorem gX7_next_X7_worksAt : GoodIn wsX7_next (wsV RX7 137 RX7 yX7_worksAt wsX7_worksAt) := goodIn_app (goodIn_of _ (by decide +kernel)) ggX7_next_X7_worksAt
set_option maxRecDepth 20000 in
theorem ggX7_next_X7_has : GoodIn wsX7_next wsX7_has := goodIn_r _ [22] (by decide +kernel) (by decide +kernel)
set_option maxRecDepth 20000 in
theorem gX7_next_X7_has : GoodIn wsX7_next (va_wsS RX7 124 yX7_has wsX7_has) := goodIn_app (goodIn_of _ (by decide +kernel)) ggX7_next_X7_has
theorem dX7_next_0 : decode cX7_next 0 = .ok (.aload_n 0, 1) := by decide +kernel
theorem dX7_next_1 : decode cX7_next 1 = .ok (.iconst 0, 1) := by decide +kernel
theorem dX7_next_2 : decode cX7_next 2 = .ok (.putfield 59, 3) := by decide +kernel
theorem dX7_next_5 : decode cX7_next 5 = .ok (.bipush (-9), 2) := by decide +kernel
theorem dX7_next_7 : decode cX7_next 7 = .ok (.istore_n 1, 1) := by decide +kernel
theorem dX7_next_8 : decode cX7_next 8 = .ok (.bipush 101, 2) := by decide +kernel
theorem dX7_next_10 : decode cX7_next 10 = .ok (.istore_n 2, 1) := by decide +kernel
theorem dX7_next_11 : decode cX7_next 11 = .ok (.iconst 0, 1) := by decide +kernel
theorem dX7_next_12 : decode cX7_next 12 = .ok (.istore_n 3, 1) := by decide +kernel
theorem dX7_next_13 : decode cX7_next 13 = .ok (.iconst 0, 1) := by decide +kernel
theorem dX7_next_14 : decode cX7_next 14 = .ok (.istore 4, 2) := by decide +kernel
theorem dX7_next_16 : decode cX7_next 16 = .ok (.iload 4, 2) := by decide +kernel
theorem dX7_next_18 : decode cX7_next 18 = .ok (.aload_n 0, 1) := by decide +kernel
theorem dX7_next_19 : decode cX7_next 19 = .ok (.getfield 13, 3) := by decide +kernel
theorem dX7_next_22 : decode cX7_next 22 = .ok (.iconst 2, 1) := by decide +kernel
theorem dX7_next_23 : decode cX7_next 23 = .ok (.iaload, 1) := by decide +kernel
theorem dX7_next_24 : decode cX7_next 24 = .ok (.if_icmp .ge 126, 3) := by decide +kernel
theorem dX7_next_27 : decode cX7_next 27 = .ok (.iconst 0, 1) := by decide +kernel
theorem dX7_next_28 : decode cX7_next 28 = .ok (.istore 5, 2) := by decide +kernel
theorem dX7_next_30 : decode cX7_next 30 = .ok (.iconst 0, 1) := by decide +kernel
theorem dX7_next_31 : decode cX7_next 31 = .ok (.istore_n 3, 1) := by decide +kernel
theorem dX7_next_32 : decode cX7_next 32 = .ok (.iconst 0, 1) := by decide +kernel
theorem dX7_next_33 : decode cX7_next 33 = .ok (.istore 6, 2) := by decide +kernel
theorem dX7_next_35 : decode cX7_next 35 = .ok (.iload 6, 2) := by decide +kernel
theorem dX7_next_37 : decode cX7_next 37 = .ok (.bipush 100, 2) := by decide +kernel
theorem dX7_next_39 : decode cX7_next 39 = .ok (.if_icmp .ge 59, 3) := by decide +kernel
theorem dX7_next_42 : decode cX7_next 42 = .ok (.iload_n 3, 1) := by decide +kernel
theorem dX7_next_43 : decode cX7_next 43 = .ok (.aload_n 0, 1) := by decide +kernel
theorem dX7_next_44 : decode cX7_next 44 = .ok (.iload 6, 2) := by decide +kernel
theorem dX7_next_46 : decode cX7_next 46 = .ok (.invokevirtual 186, 3) := by decide +kernel
theorem dX7_next_49 : decode cX7_next 49 = .ok (.ifCond .eq 7, 3) := by decide +kernel
theorem dX7_next_52 : decode cX7_next 52 = .ok (.iconst 1, 1) := by decide +kernel
theorem dX7_next_53 : decode cX7_next 53 = .ok (.goto 4, 3) := by decide +kernel
theorem dX7_next_56 : decode cX7_next 56 = .ok (.iconst 0, 1) := by decide +kernel
theorem dX7_next_57 : decode cX7_next 57 = .ok (.iadd, 1) := by decide +kernel
theorem dX7_next_58 : decode cX7_next 58 = .ok (.istore_n 3, 1) := by decide +kernel
theorem dX7_next_59 : decode cX7_next 59 = .ok (.iload 5, 2) := by decide +kernel
theorem dX7_next_61 : decode cX7_next 61 = .ok (.aload_n 0, 1) := by decide +kernel
theorem dX7_next_62 : decode cX7_next 62 = .ok (.iload 6, 2) := by decide +kernel
theorem dX7_next_64 : decode cX7_next 64 = .ok (.invokevirtual 186, 3) := by decide +kernel
theorem dX7_next_67 : decode cX7_next 67 = .ok (.ifCond .eq 21, 3) := by decide +kernel
theorem dX7_next_70 : decode cX7_next 70 = .ok (.aload_n 0, 1) := by decide +kernel
theorem dX7_next_71 : decode cX7_next 71 = .ok (.iload 6, 2) := by decide +kernel
theorem dX7_next_73 : decode cX7_next 73 = .ok (.invokevirtual 137, 3) := by decide +kernel
theorem dX7_next_76 : decode cX7_next 76 = .ok (.iload 4, 2) := by decide +kernel
theorem dX7_next_78 : decode cX7_next 78 = .ok (.invokestatic 124, 3) := by decide +kernel
theorem dX7_next_81 : decode cX7_next 81 = .ok (.ifCond .eq 7, 3) := by decide +kernel
theorem dX7_next_84 : decode cX7_next 84 = .ok (.iconst 1, 1) := by decide +kernel
theorem dX7_next_85 : decode cX7_next 85 = .ok (.goto 4, 3) := by decide +kernel
theorem dX7_next_88 : decode cX7_next 88 = .ok (.iconst 0, 1) := by decide +kernel
theorem dX7_next_89 : decode cX7_next 89 = .ok (.iadd, 1) := by decide +kernel
theorem dX7_next_90 : decode cX7_next 90 = .ok (.istore 5, 2) := by decide +kernel
theorem dX7_next_92 : decode cX7_next 92 = .ok (.iinc 6 1, 3) := by decide +kernel
theorem dX7_next_95 : decode cX7_next 95 = .ok (.goto (-60), 3) := by decide +kernel
theorem dX7_next_98 : decode cX7_next 98 = .ok (.iload 5, 2) := by decide +kernel
theorem dX7_next_100 : decode cX7_next 100 = .ok (.iload_n 3, 1) := by decide +kernel
theorem dX7_next_101 : decode cX7_next 101 = .ok (.iload 5, 2) := by decide +kernel
theorem dX7_next_103 : decode cX7_next 103 = .ok (.isub, 1) := by decide +kernel
theorem dX7_next_104 : decode cX7_next 104 = .ok (.if_icmp .le 8, 3) := by decide +kernel
theorem dX7_next_107 : decode cX7_next 107 = .ok (.iload 5, 2) := by decide +kernel
theorem dX7_next_109 : decode cX7_next 109 = .ok (.goto 7, 3) := by decide +kernel
theorem dX7_next_112 : decode cX7_next 112 = .ok (.iload_n 3, 1) := by decide +kernel
theorem dX7_next_113 : decode cX7_next 113 = .ok (.iload 5, 2) := by decide +kernel
theorem dX7_next_115 : decode cX7_next 115 = .ok (.isub, 1) := by decide +kernel
theorem dX7_next_116 : decode cX7_next 116 = .ok (.istore 6, 2) := by decide +kernel
theorem dX7_next_118 : decode cX7_next 118 = .ok (.iload 6, 2) := by decide +kernel
theorem dX7_next_120 : decode cX7_next 120 = .ok (.iload_n 2, 1) := by decide +kernel
theorem dX7_next_121 : decode cX7_next 121 = .ok (.if_icmp .ge 8, 3) := by decide +kernel
theorem dX7_next_124 : decode cX7_next 124 = .ok (.iload 4, 2) := by decide +kernel
theorem dX7_next_126 : decode cX7_next 126 = .ok (.goto 4, 3) := by decide +kernel
theorem dX7_next_129 : decode cX7_next 129 = .ok (.iload_n 1, 1) := by decide +kernel
theorem dX7_next_130 : decode cX7_next 130 = .ok (.istore_n 1, 1) := by decide +kernel
theorem dX7_next_131 : decode cX7_next 131 = .ok (.iload 6, 2) := by decide +kernel
theorem dX7_next_133 : decode cX7_next 133 = .ok (.iload_n 2, 1) := by decide +kernel
theorem dX7_next_134 : decode cX7_next 134 = .ok (.if_icmp .ge 8, 3) := by decide +kernel
theorem dX7_next_137 : decode cX7_next 137 = .ok (.iload 6, 2) := by decide +kernel
theorem dX7_next_139 : decode cX7_next 139 = .ok (.goto 4, 3) := by decide +kernel
theorem dX7_next_142 : decode cX7_next 142 = .ok (.iload_n 2, 1) := by decide +kernel
theorem dX7_next_143 : decode cX7_next 143 = .ok (.istore_n 2, 1) := by decide +kernel
theorem dX7_next_144 : decode cX7_next 144 = .ok (.iinc 4 1, 3) := by decide +kernel
theorem dX7_next_147 : decode cX7_next 147 = .ok (.goto (-131), 3) := by decide +kernel
theorem dX7_next_150 : decode cX7_next 150 = .ok (.iload_n 3, 1) := by decide +kernel
theorem dX7_next_151 : decode cX7_next 151 = .ok (.iconst 2, 1) := by decide +kernel
theorem dX7_next_152 : decode cX7_next 152 = .ok (.if_icmp .ge 8, 3) := by decide +kernel
theorem dX7_next_155 : decode cX7_next 155 = .ok (.bipush (-9), 2) := by decide +kernel
theorem dX7_next_157 : decode cX7_next 157 = .ok (.goto 4, 3) := by decide +kernel
theorem dX7_next_160 : decode cX7_next 160 = .ok (.iload_n 1, 1) := by decide +kernel
theorem dX7_next_161 : decode cX7_next 161 = .ok (.ireturn, 1) := by decide +kernel
set_option maxRecDepth 20000 in
theorem ggX7_rate_X7_in : GoodIn wsX7_rate wsX7_in := goodIn_r _ [13] (by decide +kernel) (by decide +kernel)
set_option maxRecDepth 20000 in
theorem gX7_rate_X7_in : GoodIn wsX7_rate (va_wsS RX7 63 yX7_in wsX7_in) := goodIn_app (goodIn_of _ (by decide +kernel)) ggX7_rate_X7_in
set_option maxRecDepth 20000 in
theorem ggX7_rate_X7_isChild : GoodIn wsX7_rate wsX7_isChild := goodIn_r _ [17, 18, 10, 11, 12, 13, 35, 36, 37, 38, 39, 40, 41, 42, 43, 44, 45, 46, 47, 48, 49, 50, 51, 52, 53, 54, 55, 56, 57, 58, 59] (by decide +kernel) (by decide +kernel)
set_option maxRecDepth 20000 in
theorem gX7_rate_X7_isChild : GoodIn wsX7_rate (wsV RX7 152 RX7 yX7_isChild wsX7_isChild) := goodIn_app (goodIn_of _ (by decide +kernel)) ggX7_rate_X7_isChild
set_option maxRecDepth 20000 in
theorem ggX7_rate_X7_has : GoodIn wsX7_rate wsX7_has := goodIn_r _ [21] (by decide +kernel) (by decide +kernel)
set_option maxRecDepth 20000 in
theorem gX7_rate_X7_has : GoodIn wsX7_rate (va_wsS RX7 124 yX7_has wsX7_has) := goodIn_app (goodIn_of _ (by decide +kernel)) ggX7_rate_X7_has
set_option maxRecDepth 20000 in
theorem ggX7_rate_X7_worksOf : GoodIn wsX7_rate wsX7_worksOf := goodIn_r _ [25, 3, 19, 20, 12, 21, 26, 27, 28, 29, 18, 30, 31, 10, 11, 13, 35, 36, 37, 38, 39, 40, 41, 42, 43, 44, 45, 46, 47, 48, 49, 50, 51, 52, 53, 54, 55, 56, 57, 58, 59] (by decide +kernel) (by decide +kernel)
set_option maxRecDepth 20000 in
theorem gX7_rate_X7_worksOf : GoodIn wsX7_rate (wsV RX7 140 RX7 yX7_worksOf wsX7_worksOf) := goodIn_app (goodIn_of _ (by decide +kernel)) ggX7_rate_X7_worksOf
set_option maxRecDepth 20000 in
theorem ggX7_rate_X7_ones : GoodIn wsX7_rate wsX7_ones := goodIn_r _ [34] (by decide +kernel) (by decide +kernel)
set_option maxRecDepth 20000 in
theorem gX7_rate_X7_ones : GoodIn wsX7_rate (va_wsS RX7 128 yX7_ones wsX7_ones) := goodIn_app (goodIn_of _ (by decide +kernel)) ggX7_rate_X7_ones
theorem dX7_rate_0 : decode cX7_rate 0 = .ok (.aload_n 0, 1) := by decide +kernel
theorem dX7_rate_1 : decode cX7_rate 1 = .ok (.iconst 0, 1) := by decide +kernel
theorem dX7_rate_2 : decode cX7_rate 2 = .ok (.putfield 59, 3) := by decide +kernel
theorem dX7_rate_5 : decode cX7_rate 5 = .ok (.iload_n 1, 1) := by decide +kernel
theorem dX7_rate_6 : decode cX7_rate 6 = .ok (.iconst 0, 1) := by decide +kernel
theorem dX7_rate_7 : decode cX7_rate 7 = .ok (.iconst 5, 1) := by decide +kernel
theorem dX7_rate_8 : decode cX7_rate 8 = .ok (.invokestatic 63, 3) := by decide +kernel
theorem dX7_rate_11 : decode cX7_rate 11 = .ok (.ifCond .eq 11, 3) := by decide +kernel
theorem dX7_rate_14 : decode cX7_rate 14 = .ok (.aload_n 0, 1) := by decide +kernel
theorem dX7_rate_15 : decode cX7_rate 15 = .ok (.iload_n 2, 1) := by decide +kernel
theorem dX7_rate_16 : decode cX7_rate 16 = .ok (.invokevirtual 152, 3) := by decide +kernel
theorem dX7_rate_19 : decode cX7_rate 19 = .ok (.ifCond .ne 6, 3) := by decide +kernel
theorem dX7_rate_22 : decode cX7_rate 22 = .ok (.ldc 189, 2) := by decide +kernel
theorem dX7_rate_24 : decode cX7_rate 24 = .ok (.ireturn, 1) := by decide +kernel
theorem dX7_rate_25 : decode cX7_rate 25 = .ok (.aload_n 0, 1) := by decide +kernel
theorem dX7_rate_26 : decode cX7_rate 26 = .ok (.getfield 25, 3) := by decide +kernel
theorem dX7_rate_29 : decode cX7_rate 29 = .ok (.bipush 14, 2) := by decide +kernel
theorem dX7_rate_31 : decode cX7_rate 31 = .ok (.iaload, 1) := by decide +kernel
theorem dX7_rate_32 : decode cX7_rate 32 = .ok (.iload_n 2, 1) := by decide +kernel
theorem dX7_rate_33 : decode cX7_rate 33 = .ok (.invokestatic 124, 3) := by decide +kernel
theorem dX7_rate_36 : decode cX7_rate 36 = .ok (.ifCond .eq 15, 3) := by decide +kernel
theorem dX7_rate_39 : decode cX7_rate 39 = .ok (.aload_n 0, 1) := by decide +kernel
theorem dX7_rate_40 : decode cX7_rate 40 = .ok (.getfield 25, 3) := by decide +kernel
theorem dX7_rate_43 : decode cX7_rate 43 = .ok (.bipush 15, 2) := by decide +kernel
theorem dX7_rate_45 : decode cX7_rate 45 = .ok (.iload_n 2, 1) := by decide +kernel
theorem dX7_rate_46 : decode cX7_rate 46 = .ok (.iadd, 1) := by decide +kernel
theorem dX7_rate_47 : decode cX7_rate 47 = .ok (.iaload, 1) := by decide +kernel
theorem dX7_rate_48 : decode cX7_rate 48 = .ok (.goto 4, 3) := by decide +kernel
theorem dX7_rate_51 : decode cX7_rate 51 = .ok (.iconst 0, 1) := by decide +kernel
theorem dX7_rate_52 : decode cX7_rate 52 = .ok (.istore_n 3, 1) := by decide +kernel
theorem dX7_rate_53 : decode cX7_rate 53 = .ok (.iload_n 3, 1) := by decide +kernel
theorem dX7_rate_54 : decode cX7_rate 54 = .ok (.aload_n 0, 1) := by decide +kernel
theorem dX7_rate_55 : decode cX7_rate 55 = .ok (.getfield 25, 3) := by decide +kernel
theorem dX7_rate_58 : decode cX7_rate 58 = .ok (.iconst 0, 1) := by decide +kernel
theorem dX7_rate_59 : decode cX7_rate 59 = .ok (.iaload, 1) := by decide +kernel
theorem dX7_rate_60 : decode cX7_rate 60 = .ok (.iadd, 1) := by decide +kernel
theorem dX7_rate_61 : decode cX7_rate 61 = .ok (.istore 4, 2) := by decide +kernel
theorem dX7_rate_63 : decode cX7_rate 63 = .ok (.iload_n 3, 1) := by decide +kernel
theorem dX7_rate_64 : decode cX7_rate 64 = .ok (.aload_n 0, 1) := by decide +kernel
theorem dX7_rate_65 : decode cX7_rate 65 = .ok (.iload_n 2, 1) := by decide +kernel
theorem dX7_rate_66 : decode cX7_rate 66 = .ok (.invokevirtual 140, 3) := by decide +kernel
theorem dX7_rate_69 : decode cX7_rate 69 = .ok (.invokestatic 128, 3) := by decide +kernel
theorem dX7_rate_72 : decode cX7_rate 72 = .ok (.isub, 1) := by decide +kernel
theorem dX7_rate_73 : decode cX7_rate 73 = .ok (.istore 5, 2) := by decide +kernel
theorem dX7_rate_75 : decode cX7_rate 75 = .ok (.aload_n 0, 1) := by decide +kernel
theorem dX7_rate_76 : decode cX7_rate 76 = .ok (.dup, 1) := by decide +kernel
theorem dX7_rate_77 : decode cX7_rate 77 = .ok (.getfield 190, 3) := by decide +kernel
theorem dX7_rate_80 : decode cX7_rate 80 = .ok (.iload_n 1, 1) := by decide +kernel
theorem dX7_rate_81 : decode cX7_rate 81 = .ok (.ifCond .ne 7, 3) := by decide +kernel
theorem dX7_rate_84 : decode cX7_rate 84 = .ok (.lconst 1, 1) := by decide +kernel
theorem dX7_rate_85 : decode cX7_rate 85 = .ok (.goto 50, 3) := by decide +kernel
theorem dX7_rate_88 : decode cX7_rate 88 = .ok (.iload_n 1, 1) := by decide +kernel
theorem dX7_rate_89 : decode cX7_rate 89 = .ok (.iconst 1, 1) := by decide +kernel
theorem dX7_rate_90 : decode cX7_rate 90 = .ok (.if_icmp .ne 9, 3) := by decide +kernel
theorem dX7_rate_93 : decode cX7_rate 93 = .ok (.ldc2_w 194, 3) := by decide +kernel
theorem dX7_rate_96 : decode cX7_rate 96 = .ok (.goto 39, 3) := by decide +kernel
theorem dX7_rate_99 : decode cX7_rate 99 = .ok (.iload_n 1, 1) := by decide +kernel
theorem dX7_rate_100 : decode cX7_rate 100 = .ok (.iconst 2, 1) := by decide +kernel
theorem dX7_rate_101 : decode cX7_rate 101 = .ok (.if_icmp .ne 9, 3) := by decide +kernel
theorem dX7_rate_104 : decode cX7_rate 104 = .ok (.ldc2_w 196, 3) := by decide +kernel
theorem dX7_rate_107 : decode cX7_rate 107 = .ok (.goto 28, 3) := by decide +kernel
theorem dX7_rate_110 : decode cX7_rate 110 = .ok (.iload_n 1, 1) := by decide +kernel
theorem dX7_rate_111 : decode cX7_rate 111 = .ok (.iconst 3, 1) := by decide +kernel
theorem dX7_rate_112 : decode cX7_rate 112 = .ok (.if_icmp .ne 9, 3) := by decide +kernel
theorem dX7_rate_115 : decode cX7_rate 115 = .ok (.ldc2_w 198, 3) := by decide +kernel
theorem dX7_rate_118 : decode cX7_rate 118 = .ok (.goto 17, 3) := by decide +kernel
theorem dX7_rate_121 : decode cX7_rate 121 = .ok (.iload_n 1, 1) := by decide +kernel
theorem dX7_rate_122 : decode cX7_rate 122 = .ok (.iconst 4, 1) := by decide +kernel
theorem dX7_rate_123 : decode cX7_rate 123 = .ok (.if_icmp .ne 9, 3) := by decide +kernel
theorem dX7_rate_126 : decode cX7_rate 126 = .ok (.ldc2_w 200, 3) := by decide +kernel
theorem dX7_rate_129 : decode cX7_rate 129 = .ok (.goto 6, 3) := by decide +kernel
theorem dX7_rate_132 : decode cX7_rate 132 = .ok (.ldc2_w 202, 3) := by decide +kernel
theorem dX7_rate_135 : decode cX7_rate 135 = .ok (.ladd, 1) := by decide +kernel
theorem dX7_rate_136 : decode cX7_rate 136 = .ok (.putfield 190, 3) := by decide +kernel
theorem dX7_rate_139 : decode cX7_rate 139 = .ok (.iload_n 1, 1) := by decide +kernel
theorem dX7_rate_140 : decode cX7_rate 140 = .ok (.ifCond .ne 7, 3) := by decide +kernel
theorem dX7_rate_143 : decode cX7_rate 143 = .ok (.iload_n 3, 1) := by decide +kernel
theorem dX7_rate_144 : decode cX7_rate 144 = .ok (.goto 59, 3) := by decide +kernel
theorem dX7_rate_147 : decode cX7_rate 147 = .ok (.iload_n 1, 1) := by decide +kernel
theorem dX7_rate_148 : decode cX7_rate 148 = .ok (.iconst 1, 1) := by decide +kernel
theorem dX7_rate_149 : decode cX7_rate 149 = .ok (.if_icmp .ne 8, 3) := by decide +kernel
theorem dX7_rate_152 : decode cX7_rate 152 = .ok (.iload 4, 2) := by decide +kernel
theorem dX7_rate_154 : decode cX7_rate 154 = .ok (.goto 49, 3) := by decide +kernel
theorem dX7_rate_157 : decode cX7_rate 157 = .ok (.iload_n 1, 1) := by decide +kernel
theorem dX7_rate_158 : decode cX7_rate 158 = .ok (.iconst 2, 1) := by decide +kernel
theorem dX7_rate_159 : decode cX7_rate 159 = .ok (.if_icmp .ne 8, 3) := by decide +kernel
theorem dX7_rate_162 : decode cX7_rate 162 = .ok (.iload 5, 2) := by decide +kernel
theorem dX7_rate_164 : decode cX7_rate 164 = .ok (.goto 39, 3) := by decide +kernel
theorem dX7_rate_167 : decode cX7_rate 167 = .ok (.iload_n 1, 1) := by decide +kernel
theorem dX7_rate_168 : decode cX7_rate 168 = .ok (.iconst 3, 1) := by decide +kernel
theorem dX7_rate_169 : decode cX7_rate 169 = .ok (.if_icmp .ne 10, 3) := by decide +kernel
theorem dX7_rate_172 : decode cX7_rate 172 = .ok (.iconst 2, 1) := by decide +kernel
theorem dX7_rate_173 : decode cX7_rate 173 = .ok (.iload 4, 2) := by decide +kernel
theorem dX7_rate_175 : decode cX7_rate 175 = .ok (.imul, 1) := by decide +kernel
theorem dX7_rate_176 : decode cX7_rate 176 = .ok (.goto 27, 3) := by decide +kernel
theorem dX7_rate_179 : decode cX7_rate 179 = .ok (.iload_n 1, 1) := by decide +kernel
theorem dX7_rate_180 : decode cX7_rate 180 = .ok (.iconst 4, 1) := by decide +kernel
theorem dX7_rate_181 : decode cX7_rate 181 = .ok (.if_icmp .ne 10, 3) := by decide +kernel
theorem dX7_rate_184 : decode cX7_rate 184 = .ok (.iload 5, 2) := by decide +kernel
theorem dX7_rate_186 : decode cX7_rate 186 = .ok (.iload_n 2, 1) := by decide +kernel
theorem dX7_rate_187 : decode cX7_rate 187 = .ok (.iadd, 1) := by decide +kernel
theorem dX7_rate_188 : decode cX7_rate 188 = .ok (.goto 15, 3) := by decide +kernel
theorem dX7_rate_191 : decode cX7_rate 191 = .ok (.iload_n 3, 1) := by decide +kernel
theorem dX7_rate_192 : decode cX7_rate 192 = .ok (.aload_n 0, 1) := by decide +kernel
theorem dX7_rate_193 : decode cX7_rate 193 = .ok (.getfield 25, 3) := by decide +kernel
theorem dX7_rate_196 : decode cX7_rate 196 = .ok (.bipush 14, 2) := by decide +kernel
theorem dX7_rate_198 : decode cX7_rate 198 = .ok (.iaload, 1) := by decide +kernel
theorem dX7_rate_199 : decode cX7_rate 199 = .ok (.invokestatic 128, 3) := by decide +kernel
theorem dX7_rate_202 : decode cX7_rate 202 = .ok (.iadd, 1) := by decide +kernel
theorem dX7_rate_203 : decode cX7_rate 203 = .ok (.ireturn, 1) := by decide +kernel
set_option maxRecDepth 20000 in
theorem ggX7_keep_X7_in : GoodIn wsX7_keep wsX7_in := goodIn_r _ [8] (by decide +kernel) (by decide +kernel)
set_option maxRecDepth 20000 in
theorem gX7_keep_X7_in : GoodIn wsX7_keep (va_wsS RX7 63 yX7_in wsX7_in) := goodIn_app (goodIn_of _ (by decide +kernel)) ggX7_keep_X7_in
theorem dX7_keep_0 : decode cX7_keep 0 = .ok (.aload_n 0, 1) := by decide +kernel
theorem dX7_keep_1 : decode cX7_keep 1 = .ok (.iconst 0, 1) := by decide +kernel
theorem dX7_keep_2 : decode cX7_keep 2 = .ok (.putfield 59, 3) := by decide +kernel
theorem dX7_keep_5 : decode cX7_keep 5 = .ok (.iload_n 1, 1) := by decide +kernel
theorem dX7_keep_6 : decode cX7_keep 6 = .ok (.iconst 0, 1) := by decide +kernel
theorem dX7_keep_7 : decode cX7_keep 7 = .ok (.iconst 1, 1) := by decide +kernel
theorem dX7_keep_8 : decode cX7_keep 8 = .ok (.invokestatic 63, 3) := by decide +kernel
theorem dX7_keep_11 : decode cX7_keep 11 = .ok (.ifCond .ne 5, 3) := by decide +kernel
theorem dX7_keep_14 : decode cX7_keep 14 = .ok (.iconst (-1), 1) := by decide +kernel
theorem dX7_keep_15 : decode cX7_keep 15 = .ok (.ireturn, 1) := by decide +kernel
theorem dX7_keep_16 : decode cX7_keep 16 = .ok (.iconst 0, 1) := by decide +kernel
theorem dX7_keep_17 : decode cX7_keep 17 = .ok (.istore_n 2, 1) := by decide +kernel
theorem dX7_keep_18 : decode cX7_keep 18 = .ok (.iload_n 2, 1) := by decide +kernel
theorem dX7_keep_19 : decode cX7_keep 19 = .ok (.bipush 21, 2) := by decide +kernel
theorem dX7_keep_21 : decode cX7_keep 21 = .ok (.if_icmp .ge 26, 3) := by decide +kernel
theorem dX7_keep_24 : decode cX7_keep 24 = .ok (.aload_n 0, 1) := by decide +kernel
theorem dX7_keep_25 : decode cX7_keep 25 = .ok (.getfield 28, 3) := by decide +kernel
theorem dX7_keep_28 : decode cX7_keep 28 = .ok (.bipush 21, 2) := by decide +kernel
theorem dX7_keep_30 : decode cX7_keep 30 = .ok (.iload_n 1, 1) := by decide +kernel
theorem dX7_keep_31 : decode cX7_keep 31 = .ok (.imul, 1) := by decide +kernel
theorem dX7_keep_32 : decode cX7_keep 32 = .ok (.iload_n 2, 1) := by decide +kernel
theorem dX7_keep_33 : decode cX7_keep 33 = .ok (.iadd, 1) := by decide +kernel
theorem dX7_keep_34 : decode cX7_keep 34 = .ok (.aload_n 0, 1) := by decide +kernel
theorem dX7_keep_35 : decode cX7_keep 35 = .ok (.getfield 25, 3) := by decide +kernel
theorem dX7_keep_38 : decode cX7_keep 38 = .ok (.iload_n 2, 1) := by decide +kernel
theorem dX7_keep_39 : decode cX7_keep 39 = .ok (.iaload, 1) := by decide +kernel
theorem dX7_keep_40 : decode cX7_keep 40 = .ok (.iastore, 1) := by decide +kernel
theorem dX7_keep_41 : decode cX7_keep 41 = .ok (.iinc 2 1, 3) := by decide +kernel
theorem dX7_keep_44 : decode cX7_keep 44 = .ok (.goto (-26), 3) := by decide +kernel
theorem dX7_keep_47 : decode cX7_keep 47 = .ok (.aload_n 0, 1) := by decide +kernel
theorem dX7_keep_48 : decode cX7_keep 48 = .ok (.getfield 31, 3) := by decide +kernel
theorem dX7_keep_51 : decode cX7_keep 51 = .ok (.iload_n 1, 1) := by decide +kernel
theorem dX7_keep_52 : decode cX7_keep 52 = .ok (.iconst 1, 1) := by decide +kernel
theorem dX7_keep_53 : decode cX7_keep 53 = .ok (.bastore, 1) := by decide +kernel
theorem dX7_keep_54 : decode cX7_keep 54 = .ok (.aload_n 0, 1) := by decide +kernel
theorem dX7_keep_55 : decode cX7_keep 55 = .ok (.getfield 25, 3) := by decide +kernel
theorem dX7_keep_58 : decode cX7_keep 58 = .ok (.iconst 0, 1) := by decide +kernel
theorem dX7_keep_59 : decode cX7_keep 59 = .ok (.iaload, 1) := by decide +kernel
theorem dX7_keep_60 : decode cX7_keep 60 = .ok (.ireturn, 1) := by decide +kernel
set_option maxRecDepth 20000 in
theorem ggX7_back_X7_in : GoodIn wsX7_back wsX7_in := goodIn_r _ [9] (by decide +kernel) (by decide +kernel)
set_option maxRecDepth 20000 in
theorem gX7_back_X7_in : GoodIn wsX7_back (va_wsS RX7 63 yX7_in wsX7_in) := goodIn_app (goodIn_of _ (by decide +kernel)) ggX7_back_X7_in
theorem dX7_back_0 : decode cX7_back 0 = .ok (.aload_n 0, 1) := by decide +kernel
theorem dX7_back_1 : decode cX7_back 1 = .ok (.iconst 0, 1) := by decide +kernel
theorem dX7_back_2 : decode cX7_back 2 = .ok (.putfield 59, 3) := by decide +kernel
theorem dX7_back_5 : decode cX7_back 5 = .ok (.iload_n 1, 1) := by decide +kernel
theorem dX7_back_6 : decode cX7_back 6 = .ok (.iconst 0, 1) := by decide +kernel
theorem dX7_back_7 : decode cX7_back 7 = .ok (.iconst 1, 1) := by decide +kernel
theorem dX7_back_8 : decode cX7_back 8 = .ok (.invokestatic 63, 3) := by decide +kernel
theorem dX7_back_11 : decode cX7_back 11 = .ok (.ifCond .ne 5, 3) := by decide +kernel
theorem dX7_back_14 : decode cX7_back 14 = .ok (.iconst (-1), 1) := by decide +kernel
theorem dX7_back_15 : decode cX7_back 15 = .ok (.ireturn, 1) := by decide +kernel
theorem dX7_back_16 : decode cX7_back 16 = .ok (.aload_n 0, 1) := by decide +kernel
theorem dX7_back_17 : decode cX7_back 17 = .ok (.getfield 31, 3) := by decide +kernel
theorem dX7_back_20 : decode cX7_back 20 = .ok (.iload_n 1, 1) := by decide +kernel
theorem dX7_back_21 : decode cX7_back 21 = .ok (.baload, 1) := by decide +kernel
theorem dX7_back_22 : decode cX7_back 22 = .ok (.ifCond .ne 6, 3) := by decide +kernel
theorem dX7_back_25 : decode cX7_back 25 = .ok (.bipush (-2), 2) := by decide +kernel
theorem dX7_back_27 : decode cX7_back 27 = .ok (.ireturn, 1) := by decide +kernel
theorem dX7_back_28 : decode cX7_back 28 = .ok (.iconst 0, 1) := by decide +kernel
theorem dX7_back_29 : decode cX7_back 29 = .ok (.istore_n 2, 1) := by decide +kernel
theorem dX7_back_30 : decode cX7_back 30 = .ok (.iload_n 2, 1) := by decide +kernel
theorem dX7_back_31 : decode cX7_back 31 = .ok (.bipush 21, 2) := by decide +kernel
theorem dX7_back_33 : decode cX7_back 33 = .ok (.if_icmp .ge 26, 3) := by decide +kernel
theorem dX7_back_36 : decode cX7_back 36 = .ok (.aload_n 0, 1) := by decide +kernel
theorem dX7_back_37 : decode cX7_back 37 = .ok (.getfield 25, 3) := by decide +kernel
theorem dX7_back_40 : decode cX7_back 40 = .ok (.iload_n 2, 1) := by decide +kernel
theorem dX7_back_41 : decode cX7_back 41 = .ok (.aload_n 0, 1) := by decide +kernel
theorem dX7_back_42 : decode cX7_back 42 = .ok (.getfield 28, 3) := by decide +kernel
theorem dX7_back_45 : decode cX7_back 45 = .ok (.bipush 21, 2) := by decide +kernel
theorem dX7_back_47 : decode cX7_back 47 = .ok (.iload_n 1, 1) := by decide +kernel
theorem dX7_back_48 : decode cX7_back 48 = .ok (.imul, 1) := by decide +kernel
theorem dX7_back_49 : decode cX7_back 49 = .ok (.iload_n 2, 1) := by decide +kernel
theorem dX7_back_50 : decode cX7_back 50 = .ok (.iadd, 1) := by decide +kernel
theorem dX7_back_51 : decode cX7_back 51 = .ok (.iaload, 1) := by decide +kernel
theorem dX7_back_52 : decode cX7_back 52 = .ok (.iastore, 1) := by decide +kernel
theorem dX7_back_53 : decode cX7_back 53 = .ok (.iinc 2 1, 3) := by decide +kernel
theorem dX7_back_56 : decode cX7_back 56 = .ok (.goto (-26), 3) := by decide +kernel
theorem dX7_back_59 : decode cX7_back 59 = .ok (.aload_n 0, 1) := by decide +kernel
theorem dX7_back_60 : decode cX7_back 60 = .ok (.iconst 0, 1) := by decide +kernel
theorem dX7_back_61 : decode cX7_back 61 = .ok (.putfield 121, 3) := by decide +kernel
theorem dX7_back_64 : decode cX7_back 64 = .ok (.aload_n 0, 1) := by decide +kernel
theorem dX7_back_65 : decode cX7_back 65 = .ok (.getfield 25, 3) := by decide +kernel
theorem dX7_back_68 : decode cX7_back 68 = .ok (.iconst 0, 1) := by decide +kernel
theorem dX7_back_69 : decode cX7_back 69 = .ok (.iaload, 1) := by decide +kernel
theorem dX7_back_70 : decode cX7_back 70 = .ok (.ireturn, 1) := by decide +kernel
set_option maxRecDepth 20000 in
theorem ggX7_count_X7_in : GoodIn wsX7_count wsX7_in := goodIn_r _ [8] (by decide +kernel) (by decide +kernel)
set_option maxRecDepth 20000 in
theorem gX7_count_X7_in : GoodIn wsX7_count (va_wsS RX7 63 yX7_in wsX7_in) := goodIn_app (goodIn_of _ (by decide +kernel)) ggX7_count_X7_in
theorem dX7_count_0 : decode cX7_count 0 = .ok (.aload_n 0, 1) := by decide +kernel
theorem dX7_count_1 : decode cX7_count 1 = .ok (.iconst 0, 1) := by decide +kernel
theorem dX7_count_2 : decode cX7_count 2 = .ok (.putfield 59, 3) := by decide +kernel
theorem dX7_count_5 : decode cX7_count 5 = .ok (.iload_n 1, 1) := by decide +kernel
theorem dX7_count_6 : decode cX7_count 6 = .ok (.iconst 0, 1) := by decide +kernel
theorem dX7_count_7 : decode cX7_count 7 = .ok (.iconst 3, 1) := by decide +kernel
theorem dX7_count_8 : decode cX7_count 8 = .ok (.invokestatic 63, 3) := by decide +kernel
theorem dX7_count_11 : decode cX7_count 11 = .ok (.ifCond .eq 12, 3) := by decide +kernel
theorem dX7_count_14 : decode cX7_count 14 = .ok (.aload_n 0, 1) := by decide +kernel
theorem dX7_count_15 : decode cX7_count 15 = .ok (.getfield 13, 3) := by decide +kernel
theorem dX7_count_18 : decode cX7_count 18 = .ok (.iload_n 1, 1) := by decide +kernel
theorem dX7_count_19 : decode cX7_count 19 = .ok (.iaload, 1) := by decide +kernel
theorem dX7_count_20 : decode cX7_count 20 = .ok (.goto 28, 3) := by decide +kernel
theorem dX7_count_23 : decode cX7_count 23 = .ok (.iload_n 1, 1) := by decide +kernel
theorem dX7_count_24 : decode cX7_count 24 = .ok (.iconst 4, 1) := by decide +kernel
theorem dX7_count_25 : decode cX7_count 25 = .ok (.if_icmp .ne 10, 3) := by decide +kernel
theorem dX7_count_28 : decode cX7_count 28 = .ok (.aload_n 0, 1) := by decide +kernel
theorem dX7_count_29 : decode cX7_count 29 = .ok (.getfield 118, 3) := by decide +kernel
theorem dX7_count_32 : decode cX7_count 32 = .ok (.goto 16, 3) := by decide +kernel
theorem dX7_count_35 : decode cX7_count 35 = .ok (.iload_n 1, 1) := by decide +kernel
theorem dX7_count_36 : decode cX7_count 36 = .ok (.iconst 5, 1) := by decide +kernel
theorem dX7_count_37 : decode cX7_count 37 = .ok (.if_icmp .ne 10, 3) := by decide +kernel
theorem dX7_count_40 : decode cX7_count 40 = .ok (.aload_n 0, 1) := by decide +kernel
theorem dX7_count_41 : decode cX7_count 41 = .ok (.getfield 67, 3) := by decide +kernel
theorem dX7_count_44 : decode cX7_count 44 = .ok (.goto 4, 3) := by decide +kernel
theorem dX7_count_47 : decode cX7_count 47 = .ok (.iconst (-1), 1) := by decide +kernel
theorem dX7_count_48 : decode cX7_count 48 = .ok (.ireturn, 1) := by decide +kernel
theorem dX7_trace_0 : decode cX7_trace 0 = .ok (.aload_n 0, 1) := by decide +kernel
theorem dX7_trace_1 : decode cX7_trace 1 = .ok (.iconst 0, 1) := by decide +kernel
theorem dX7_trace_2 : decode cX7_trace 2 = .ok (.putfield 59, 3) := by decide +kernel
theorem dX7_trace_5 : decode cX7_trace 5 = .ok (.aload_n 0, 1) := by decide +kernel
theorem dX7_trace_6 : decode cX7_trace 6 = .ok (.getfield 190, 3) := by decide +kernel
theorem dX7_trace_9 : decode cX7_trace 9 = .ok (.lreturn, 1) := by decide +kernel
theorem dJ6_bitCount_0f7a4_0 : decode cJ6_bitCount_0f7a4 0 = .ok (.iload_n 0, 1) := by decide +kernel
theorem dJ6_bitCount_0f7a4_1 : decode cJ6_bitCount_0f7a4 1 = .ok (.iload_n 0, 1) := by decide +kernel
theorem dJ6_bitCount_0f7a4_2 : decode cJ6_bitCount_0f7a4 2 = .ok (.iconst 1, 1) := by decide +kernel
theorem dJ6_bitCount_0f7a4_3 : decode cJ6_bitCount_0f7a4 3 = .ok (.iushr, 1) := by decide +kernel
theorem dJ6_bitCount_0f7a4_4 : decode cJ6_bitCount_0f7a4 4 = .ok (.ldc_w 265, 3) := by decide +kernel
theorem dJ6_bitCount_0f7a4_7 : decode cJ6_bitCount_0f7a4 7 = .ok (.iand, 1) := by decide +kernel
theorem dJ6_bitCount_0f7a4_8 : decode cJ6_bitCount_0f7a4 8 = .ok (.isub, 1) := by decide +kernel
theorem dJ6_bitCount_0f7a4_9 : decode cJ6_bitCount_0f7a4 9 = .ok (.istore_n 0, 1) := by decide +kernel
theorem dJ6_bitCount_0f7a4_10 : decode cJ6_bitCount_0f7a4 10 = .ok (.iload_n 0, 1) := by decide +kernel
theorem dJ6_bitCount_0f7a4_11 : decode cJ6_bitCount_0f7a4 11 = .ok (.ldc_w 266, 3) := by decide +kernel
theorem dJ6_bitCount_0f7a4_14 : decode cJ6_bitCount_0f7a4 14 = .ok (.iand, 1) := by decide +kernel
theorem dJ6_bitCount_0f7a4_15 : decode cJ6_bitCount_0f7a4 15 = .ok (.iload_n 0, 1) := by decide +kernel
theorem dJ6_bitCount_0f7a4_16 : decode cJ6_bitCount_0f7a4 16 = .ok (.iconst 2, 1) := by decide +kernel
theorem dJ6_bitCount_0f7a4_17 : decode cJ6_bitCount_0f7a4 17 = .ok (.iushr, 1) := by decide +kernel
theorem dJ6_bitCount_0f7a4_18 : decode cJ6_bitCount_0f7a4 18 = .ok (.ldc_w 266, 3) := by decide +kernel
theorem dJ6_bitCount_0f7a4_21 : decode cJ6_bitCount_0f7a4 21 = .ok (.iand, 1) := by decide +kernel
theorem dJ6_bitCount_0f7a4_22 : decode cJ6_bitCount_0f7a4 22 = .ok (.iadd, 1) := by decide +kernel
theorem dJ6_bitCount_0f7a4_23 : decode cJ6_bitCount_0f7a4 23 = .ok (.istore_n 0, 1) := by decide +kernel
theorem dJ6_bitCount_0f7a4_24 : decode cJ6_bitCount_0f7a4 24 = .ok (.iload_n 0, 1) := by decide +kernel
theorem dJ6_bitCount_0f7a4_25 : decode cJ6_bitCount_0f7a4 25 = .ok (.iload_n 0, 1) := by decide +kernel
theorem dJ6_bitCount_0f7a4_26 : decode cJ6_bitCount_0f7a4 26 = .ok (.iconst 4, 1) := by decide +kernel
theorem dJ6_bitCount_0f7a4_27 : decode cJ6_bitCount_0f7a4 27 = .ok (.iushr, 1) := by decide +kernel
theorem dJ6_bitCount_0f7a4_28 : decode cJ6_bitCount_0f7a4 28 = .ok (.iadd, 1) := by decide +kernel
theorem dJ6_bitCount_0f7a4_29 : decode cJ6_bitCount_0f7a4 29 = .ok (.ldc_w 267, 3) := by decide +kernel
theorem dJ6_bitCount_0f7a4_32 : decode cJ6_bitCount_0f7a4 32 = .ok (.iand, 1) := by decide +kernel
theorem dJ6_bitCount_0f7a4_33 : decode cJ6_bitCount_0f7a4 33 = .ok (.istore_n 0, 1) := by decide +kernel
theorem dJ6_bitCount_0f7a4_34 : decode cJ6_bitCount_0f7a4 34 = .ok (.iload_n 0, 1) := by decide +kernel
theorem dJ6_bitCount_0f7a4_35 : decode cJ6_bitCount_0f7a4 35 = .ok (.iload_n 0, 1) := by decide +kernel
theorem dJ6_bitCount_0f7a4_36 : decode cJ6_bitCount_0f7a4 36 = .ok (.bipush 8, 2) := by decide +kernel
theorem dJ6_bitCount_0f7a4_38 : decode cJ6_bitCount_0f7a4 38 = .ok (.iushr, 1) := by decide +kernel
theorem dJ6_bitCount_0f7a4_39 : decode cJ6_bitCount_0f7a4 39 = .ok (.iadd, 1) := by decide +kernel
theorem dJ6_bitCount_0f7a4_40 : decode cJ6_bitCount_0f7a4 40 = .ok (.istore_n 0, 1) := by decide +kernel
theorem dJ6_bitCount_0f7a4_41 : decode cJ6_bitCount_0f7a4 41 = .ok (.iload_n 0, 1) := by decide +kernel
theorem dJ6_bitCount_0f7a4_42 : decode cJ6_bitCount_0f7a4 42 = .ok (.iload_n 0, 1) := by decide +kernel
theorem dJ6_bitCount_0f7a4_43 : decode cJ6_bitCount_0f7a4 43 = .ok (.bipush 16, 2) := by decide +kernel
theorem dJ6_bitCount_0f7a4_45 : decode cJ6_bitCount_0f7a4 45 = .ok (.iushr, 1) := by decide +kernel
theorem dJ6_bitCount_0f7a4_46 : decode cJ6_bitCount_0f7a4 46 = .ok (.iadd, 1) := by decide +kernel
theorem dJ6_bitCount_0f7a4_47 : decode cJ6_bitCount_0f7a4 47 = .ok (.istore_n 0, 1) := by decide +kernel
theorem dJ6_bitCount_0f7a4_48 : decode cJ6_bitCount_0f7a4 48 = .ok (.iload_n 0, 1) := by decide +kernel
theorem dJ6_bitCount_0f7a4_49 : decode cJ6_bitCount_0f7a4 49 = .ok (.bipush 63, 2) := by decide +kernel
theorem dJ6_bitCount_0f7a4_51 : decode cJ6_bitCount_0f7a4 51 = .ok (.iand, 1) := by decide +kernel
theorem dJ6_bitCount_0f7a4_52 : decode cJ6_bitCount_0f7a4 52 = .ok (.ireturn, 1) := by decide +kernel
theorem dJ9_max_7cf53_0 : decode cJ9_max_7cf53 0 = .ok (.iload_n 0, 1) := by decide +kernel
theorem dJ9_max_7cf53_1 : decode cJ9_max_7cf53 1 = .ok (.iload_n 1, 1) := by decide +kernel
theorem dJ9_max_7cf53_2 : decode cJ9_max_7cf53 2 = .ok (.if_icmp .lt 7, 3) := by decide +kernel
theorem dJ9_max_7cf53_5 : decode cJ9_max_7cf53 5 = .ok (.iload_n 0, 1) := by decide +kernel
theorem dJ9_max_7cf53_6 : decode cJ9_max_7cf53 6 = .ok (.goto 4, 3) := by decide +kernel
theorem dJ9_max_7cf53_9 : decode cJ9_max_7cf53 9 = .ok (.iload_n 1, 1) := by decide +kernel
theorem dJ9_max_7cf53_10 : decode cJ9_max_7cf53 10 = .ok (.ireturn, 1) := by decide +kernel
theorem dJ9_min_7cf53_0 : decode cJ9_min_7cf53 0 = .ok (.iload_n 0, 1) := by decide +kernel
theorem dJ9_min_7cf53_1 : decode cJ9_min_7cf53 1 = .ok (.iload_n 1, 1) := by decide +kernel
theorem dJ9_min_7cf53_2 : decode cJ9_min_7cf53 2 = .ok (.if_icmp .gt 7, 3) := by decide +kernel
theorem dJ9_min_7cf53_5 : decode cJ9_min_7cf53 5 = .ok (.iload_n 0, 1) := by decide +kernel
theorem dJ9_min_7cf53_6 : decode cJ9_min_7cf53 6 = .ok (.goto 4, 3) := by decide +kernel
theorem dJ9_min_7cf53_9 : decode cJ9_min_7cf53 9 = .ok (.iload_n 1, 1) := by decide +kernel
theorem dJ9_min_7cf53_10 : decode cJ9_min_7cf53 10 = .ok (.ireturn, 1) := by decide +kernel
set_option maxRecDepth 20000 in
theorem ggL_law_X6_init : GoodIn wsL_law wsX6_init := goodIn_r _ [8, 9, 10, 11, 12, 13, 14, 15, 16, 17, 18, 19, 20, 21, 22, 23, 24, 25, 26, 27, 28, 29, 30, 31, 32, 33, 34, 35, 36, 37, 38, 39, 40, 41, 42, 43, 44, 45, 46, 47, 48, 49, 50, 51, 52, 53, 54, 55, 56, 57, 58, 59, 60, 61, 62, 63, 64, 65, 66, 67, 68, 69, 70, 71, 72, 73, 74, 75, 76, 77, 78, 79, 80, 81, 82, 83, 84, 85, 86, 87, 88, 89, 90, 91, 92, 93, 94, 95, 2, 96, 734, 735, 736, 737, 738, 739, 740, 741, 699, 700, 701, 702, 703, 704, 705, 706, 707, 708, 742, 743, 744, 745, 746, 747, 748, 749, 750, 751, 752, 753, 754, 755, 756, 757, 758, 759, 760, 761, 762, 763, 764, 765] (by decide +kernel) (by decide +kernel)
set_option maxRecDepth 20000 in
theorem gL_law_X6_init : GoodIn wsL_law (wsX6_init) := ggL_law_X6_init
set_option maxRecDepth 20000 in
theorem ggL_law_X7_init : GoodIn wsL_law wsX7_init := goodIn_r _ [99, 100, 10, 11, 44, 101, 102, 103, 104, 105, 106, 107, 25, 108, 109, 110, 111, 112, 113, 114, 115, 116, 117, 5, 118, 119, 120, 121, 122, 123, 124, 125, 126, 709, 710, 711, 712, 713, 714, 715, 716, 717, 718, 719, 720, 721, 722, 723, 724, 725, 726, 727, 728, 729, 730, 731, 732, 733] (by decide +kernel) (by decide +kernel)
set_option maxRecDepth 20000 in
theorem gL_law_X7_init : GoodIn wsL_law (wsX7_init) := ggL_law_X7_init
set_option maxRecDepth 20000 in
theorem ggL_law_X6_type : GoodIn wsL_law wsX6_type := goodIn_r _ [130, 15, 131, 14, 132, 133, 45, 46, 699, 700, 701, 702, 703, 704, 705, 706, 707, 708, 734, 735, 736, 737, 738, 739, 740, 741] (by decide +kernel) (by decide +kernel)
set_option maxRecDepth 20000 in
theorem gL_law_X6_type : GoodIn wsL_law (wsV RL 13 RX6 yX6_type wsX6_type) := goodIn_app (goodIn_of _ (by decide +kernel)) ggL_law_X6_type
set_option maxRecDepth 20000 in
theorem ggL_law_X7_type : GoodIn wsL_law wsX7_type := goodIn_r _ [137, 138, 124, 101, 139, 140, 5, 141, 709, 710, 711, 712, 713, 714, 715, 716, 717, 718, 719, 720, 721, 722, 723, 724, 725, 726, 727, 728, 729, 730, 731, 732, 733] (by decide +kernel) (by decide +kernel)
set_option maxRecDepth 20000 in
theorem gL_law_X7_type : GoodIn wsL_law (wsV RL 17 RX7 yX7_type wsX7_type) := goodIn_app (goodIn_of _ (by decide +kernel)) ggL_law_X7_type
set_option maxRecDepth 20000 in
theorem ggL_law_X6_clear : GoodIn wsL_law wsX6_clear := goodIn_r _ [145, 15, 699, 700, 701, 702, 703, 704, 705, 706, 707, 708, 734, 735, 736, 737, 738, 739, 740, 741] (by decide +kernel) (by decide +kernel)
set_option maxRecDepth 20000 in
theorem gL_law_X6_clear : GoodIn wsL_law (wsV RL 18 RX6 yX6_clear wsX6_clear) := goodIn_app (goodIn_of _ (by decide +kernel)) ggL_law_X6_clear
set_option maxRecDepth 20000 in
theorem ggL_law_X7_clear : GoodIn wsL_law wsX7_clear := goodIn_r _ [149, 138, 124, 709, 710, 711, 712, 713, 714, 715, 716, 717, 718, 719, 720, 721, 722, 723, 724, 725, 726, 727, 728, 729, 730, 731, 732, 733] (by decide +kernel) (by decide +kernel)
set_option maxRecDepth 20000 in
theorem gL_law_X7_clear : GoodIn wsL_law (wsV RL 22 RX7 yX7_clear wsX7_clear) := goodIn_app (goodIn_of _ (by decide +kernel)) ggL_law_X7_clear
set_option maxRecDepth 20000 in
theorem ggL_law_X6_town : GoodIn wsL_law wsX6_town := goodIn_r _ [153, 15, 39, 38, 154, 14, 155, 156, 157, 158, 159, 46, 160, 81, 37, 82, 83, 84, 85, 86, 87, 88, 161, 162, 163, 164, 45, 165, 166, 167, 168, 169, 170, 171, 172, 173, 174, 175, 176, 177, 178, 179, 180, 181, 182, 183, 184, 185, 186, 187, 188, 189, 190, 191, 192, 193, 194, 195, 196, 197, 198, 199, 200, 201, 202, 203, 204, 205, 206, 207, 208, 2, 209, 19, 23, 34, 26, 89, 18, 90, 91, 92, 93, 94, 50, 51, 95, 96, 699, 700, 701, 702, 703, 704, 705, 706, 707, 708, 734, 735, 736, 737, 738, 739, 740, 741, 758, 759, 760, 761, 762, 763, 764, 765, 748, 749, 750, 755, 756, 757, 742, 743, 744, 745, 746, 747] (by decide +kernel) (by decide +kernel)
set_option maxRecDepth 20000 in
theorem gL_law_X6_town : GoodIn wsL_law (wsV RL 23 RX6 yX6_town wsX6_town) := goodIn_app (goodIn_of _ (by decide +kernel)) ggL_law_X6_town
set_option maxRecDepth 20000 in
theorem ggL_law_X7_town : GoodIn wsL_law wsX7_town := goodIn_r _ [213, 138, 214, 215, 216, 115, 116, 117, 5, 118, 119, 102, 217, 218, 219, 220, 221, 222, 223, 224, 225, 226, 124, 101, 139, 140, 141, 227, 228, 229, 230, 231, 232, 233, 234, 235, 236, 237, 238, 239, 240, 241, 242, 243, 244, 245, 103, 104, 105, 246, 247, 248, 249, 120, 121, 122, 123, 106, 125, 126, 108, 709, 710, 711, 712, 713, 714, 715, 716, 717, 718, 719, 720, 721, 722, 723, 724, 725, 726, 727, 728, 729, 730, 731, 732, 733] (by decide +kernel) (by decide +kernel)
set_option maxRecDepth 20000 in
theorem gL_law_X7_town : GoodIn wsL_law (wsV RL 26 RX7 yX7_town wsX7_town) := goodIn_app (goodIn_of _ (by decide +kernel)) ggL_law_X7_town
set_option maxRecDepth 20000 in
theorem ggL_law_X6_room : GoodIn wsL_law wsX6_room := goodIn_r _ [253, 19, 254, 255, 256, 2, 257, 38, 258, 18, 259, 260, 51, 261, 262, 263, 264, 50, 265, 266, 267, 95, 96, 699, 700, 701, 702, 703, 704, 705, 706, 707, 708, 742, 743, 744, 745, 746, 747, 758, 759, 760, 761, 762, 763, 764, 765] (by decide +kernel) (by decide +kernel)
set_option maxRecDepth 20000 in
theorem gL_law_X6_room : GoodIn wsL_law (wsV RL 27 RX6 yX6_room wsX6_room) := goodIn_app (goodIn_of _ (by decide +kernel)) ggL_law_X6_room
set_option maxRecDepth 20000 in
theorem ggL_law_X7_room : GoodIn wsL_law wsX7_room := goodIn_r _ [271, 138, 106, 272, 273, 274, 5, 275, 102, 139, 140, 141, 276, 277, 278, 279, 280, 281, 282, 283, 284, 285, 286, 287, 288, 289, 290, 291, 292, 293, 709, 710, 711, 712, 713, 714, 715, 716, 717, 718, 719, 720, 721, 722, 723, 724, 725, 726, 727, 728, 729, 730, 731, 732, 733] (by decide +kernel) (by decide +kernel)
set_option maxRecDepth 20000 in
theorem gL_law_X7_room : GoodIn wsL_law (wsV RL 31 RX7 yX7_room wsX7_room) := goodIn_app (goodIn_of _ (by decide +kernel)) ggL_law_X7_room
set_option maxRecDepth 20000 in
theorem ggL_law_X6_child : GoodIn wsL_law wsX6_child := goodIn_r _ [297, 19, 298, 299, 300, 2, 301, 38, 302, 265, 266, 267, 95, 96, 303, 304, 305, 306, 307, 37, 308, 309, 87, 310, 311, 312, 313, 88, 314, 315, 316, 317, 78, 79, 699, 700, 701, 702, 703, 704, 705, 706, 707, 708, 742, 743, 744, 745, 746, 747, 758, 759, 760, 761, 762, 763, 764, 765] (by decide +kernel) (by decide +kernel)
set_option maxRecDepth 20000 in
theorem gL_law_X6_child : GoodIn wsL_law (wsV RL 32 RX6 yX6_child wsX6_child) := goodIn_app (goodIn_of _ (by decide +kernel)) ggL_law_X6_child
set_option maxRecDepth 20000 in
theorem ggL_law_X7_child : GoodIn wsL_law wsX7_child := goodIn_r _ [321, 138, 106, 322, 323, 324, 5, 325, 102, 139, 140, 141, 326, 327, 328, 329, 288, 289, 290, 330, 331, 332, 333, 104, 105, 709, 710, 711, 712, 713, 714, 715, 716, 717, 718, 719, 720, 721, 722, 723, 724, 725, 726, 727, 728, 729, 730, 731, 732, 733] (by decide +kernel) (by decide +kernel)
set_option maxRecDepth 20000 in
theorem gL_law_X7_child : GoodIn wsL_law (wsV RL 35 RX7 yX7_child wsX7_child) := goodIn_app (goodIn_of _ (by decide +kernel)) ggL_law_X7_child
set_option maxRecDepth 20000 in
theorem ggL_law_X6_work : GoodIn wsL_law wsX6_work := goodIn_r _ [337, 38, 338, 339, 340, 2, 341, 342, 343, 344, 345, 19, 302, 265, 266, 267, 95, 96, 311, 37, 312, 313, 88, 314, 315, 316, 317, 78, 79, 346, 347, 348, 349, 699, 700, 701, 702, 703, 704, 705, 706, 707, 708, 758, 759, 760, 761, 762, 763, 764, 765, 742, 743, 744, 745, 746, 747] (by decide +kernel) (by decide +kernel)
set_option maxRecDepth 20000 in
theorem gL_law_X6_work : GoodIn wsL_law (wsV RL 36 RX6 yX6_work wsX6_work) := goodIn_app (goodIn_of _ (by decide +kernel)) ggL_law_X6_work
set_option maxRecDepth 20000 in
theorem ggL_law_X7_work : GoodIn wsL_law wsX7_work := goodIn_r _ [353, 138, 104, 105, 354, 355, 356, 5, 357, 102, 139, 140, 141, 358, 359, 360, 361, 326, 327, 328, 329, 106, 288, 289, 290, 330, 331, 332, 333, 362, 363, 364, 365, 366, 367, 368, 369, 709, 710, 711, 712, 713, 714, 715, 716, 717, 718, 719, 720, 721, 722, 723, 724, 725, 726, 727, 728, 729, 730, 731, 732, 733] (by decide +kernel) (by decide +kernel)
set_option maxRecDepth 20000 in
theorem gL_law_X7_work : GoodIn wsL_law (wsV RL 39 RX7 yX7_work wsX7_work) := goodIn_app (goodIn_of _ (by decide +kernel)) ggL_law_X7_work
set_option maxRecDepth 20000 in
theorem ggL_law_X6_now : GoodIn wsL_law wsX6_now := goodIn_r _ [373, 19, 23, 374, 375, 376, 2, 377, 30, 378, 379, 380, 381, 38, 303, 304, 305, 306, 302, 265, 266, 267, 95, 96, 307, 37, 308, 309, 87, 310, 311, 312, 313, 88, 314, 315, 316, 317, 78, 79, 382, 29, 383, 384, 67, 65, 66, 385, 386, 387, 388, 389, 390, 176, 391, 392, 393, 394, 395, 63, 699, 700, 701, 702, 703, 704, 705, 706, 707, 708, 742, 743, 744, 745, 746, 747, 748, 749, 750, 758, 759, 760, 761, 762, 763, 764, 765, 751, 752, 753, 754] (by decide +kernel) (by decide +kernel)
set_option maxRecDepth 20000 in
theorem gL_law_X6_now : GoodIn wsL_law (wsV RL 40 RX6 yX6_now wsX6_now) := goodIn_app (goodIn_of _ (by decide +kernel)) ggL_law_X6_now
set_option maxRecDepth 20000 in
theorem ggL_law_X7_now : GoodIn wsL_law wsX7_now := goodIn_r _ [399, 138, 106, 126, 139, 140, 5, 141, 400, 401, 402, 403, 112, 102, 326, 327, 328, 329, 288, 289, 290, 330, 331, 332, 333, 104, 105, 404, 405, 406, 407, 114, 113, 408, 409, 410, 411, 412, 413, 414, 415, 709, 710, 711, 712, 713, 714, 715, 716, 717, 718, 719, 720, 721, 722, 723, 724, 725, 726, 727, 728, 729, 730, 731, 732, 733] (by decide +kernel) (by decide +kernel)
set_option maxRecDepth 20000 in
theorem gL_law_X7_now : GoodIn wsL_law (wsV RL 43 RX7 yX7_now wsX7_now) := goodIn_app (goodIn_of _ (by decide +kernel)) ggL_law_X7_now
set_option maxRecDepth 20000 in
theorem ggL_law_X6_bears : GoodIn wsL_law wsX6_bears := goodIn_r _ [419, 19, 23, 38, 298, 299, 300, 2, 301, 254, 255, 256, 257, 302, 265, 266, 267, 95, 96, 420, 22, 421, 422, 57, 58, 59, 423, 175, 176, 177, 424, 18, 425, 426, 92, 93, 94, 50, 427, 428, 429, 430, 51, 52, 431, 432, 433, 434, 258, 259, 260, 261, 262, 263, 264, 699, 700, 701, 702, 703, 704, 705, 706, 707, 708, 742, 743, 744, 745, 746, 747, 758, 759, 760, 761, 762, 763, 764, 765, 748, 749, 750] (by decide +kernel) (by decide +kernel)
set_option maxRecDepth 20000 in
theorem gL_law_X6_bears : GoodIn wsL_law (wsV RL 44 RX6 yX6_bears wsX6_bears) := goodIn_app (goodIn_of _ (by decide +kernel)) ggL_law_X6_bears
set_option maxRecDepth 20000 in
theorem ggL_law_X7_bears : GoodIn wsL_law wsX7_bears := goodIn_r _ [438, 138, 106, 102, 322, 323, 324, 5, 325, 139, 140, 141, 272, 273, 274, 275, 288, 289, 290, 439, 440, 441, 442, 126, 109, 276, 277, 278, 279, 280, 281, 282, 283, 284, 285, 286, 287, 291, 292, 293, 709, 710, 711, 712, 713, 714, 715, 716, 717, 718, 719, 720, 721, 722, 723, 724, 725, 726, 727, 728, 729, 730, 731, 732, 733] (by decide +kernel) (by decide +kernel)
set_option maxRecDepth 20000 in
theorem gL_law_X7_bears : GoodIn wsL_law (wsV RL 47 RX7 yX7_bears wsX7_bears) := goodIn_app (goodIn_of _ (by decide +kernel)) ggL_law_X7_bears
set_option maxRecDepth 20000 in
theorem ggL_law_X6_year : GoodIn wsL_law wsX6_year := goodIn_r _ [446, 19, 23, 38, 420, 22, 421, 422, 57, 58, 59, 423, 175, 176, 177, 424, 18, 425, 426, 92, 93, 94, 50, 427, 428, 429, 430, 51, 52, 447, 448, 449, 265, 2, 266, 267, 95, 96, 699, 700, 701, 702, 703, 704, 705, 706, 707, 708, 742, 743, 744, 745, 746, 747, 748, 749, 750, 758, 759, 760, 761, 762, 763, 764, 765] (by decide +kernel) (by decide +kernel)
set_option maxRecDepth 20000 in
theorem gL_law_X6_year : GoodIn wsL_law (wsV RL 48 RX6 yX6_year wsX6_year) := goodIn_app (goodIn_of _ (by decide +kernel)) ggL_law_X6_year
set_option maxRecDepth 20000 in
theorem ggL_law_X7_year : GoodIn wsL_law wsX7_year := goodIn_r _ [453, 138, 106, 102, 439, 440, 441, 5, 442, 126, 109, 288, 289, 290, 709, 710, 711, 712, 713, 714, 715, 716, 717, 718, 719, 720, 721, 722, 723, 724, 725, 726, 727, 728, 729, 730, 731, 732, 733] (by decide +kernel) (by decide +kernel)
set_option maxRecDepth 20000 in
theorem gL_law_X7_year : GoodIn wsL_law (wsV RL 51 RX7 yX7_year wsX7_year) := goodIn_app (goodIn_of _ (by decide +kernel)) ggL_law_X7_year
set_option maxRecDepth 20000 in
theorem ggL_law_X6_joins : GoodIn wsL_law wsX6_joins := goodIn_r _ [457, 19, 23, 254, 255, 256, 2, 257, 38, 302, 265, 266, 267, 95, 96, 420, 22, 421, 422, 57, 58, 59, 423, 175, 176, 177, 424, 18, 425, 426, 92, 93, 94, 50, 427, 428, 429, 430, 51, 52, 458, 459, 460, 258, 259, 260, 261, 262, 263, 264, 699, 700, 701, 702, 703, 704, 705, 706, 707, 708, 742, 743, 744, 745, 746, 747, 758, 759, 760, 761, 762, 763, 764, 765, 748, 749, 750] (by decide +kernel) (by decide +kernel)
set_option maxRecDepth 20000 in
theorem gL_law_X6_joins : GoodIn wsL_law (wsV RL 52 RX6 yX6_joins wsX6_joins) := goodIn_app (goodIn_of _ (by decide +kernel)) ggL_law_X6_joins
set_option maxRecDepth 20000 in
theorem ggL_law_X7_joins : GoodIn wsL_law wsX7_joins := goodIn_r _ [464, 138, 106, 272, 273, 274, 5, 275, 102, 139, 140, 141, 439, 440, 441, 442, 126, 109, 276, 277, 278, 279, 280, 281, 282, 283, 284, 285, 286, 287, 288, 289, 290, 291, 292, 293, 709, 710, 711, 712, 713, 714, 715, 716, 717, 718, 719, 720, 721, 722, 723, 724, 725, 726, 727, 728, 729, 730, 731, 732, 733] (by decide +kernel) (by decide +kernel)
set_option maxRecDepth 20000 in
theorem gL_law_X7_joins : GoodIn wsL_law (wsV RL 55 RX7 yX7_joins wsX7_joins) := goodIn_app (goodIn_of _ (by decide +kernel)) ggL_law_X7_joins
set_option maxRecDepth 20000 in
theorem ggL_law_X6_builds : GoodIn wsL_law wsX6_builds := goodIn_r _ [468, 19, 23, 254, 255, 256, 2, 257, 38, 267, 95, 96, 420, 22, 421, 422, 57, 58, 59, 423, 175, 176, 177, 424, 18, 425, 426, 92, 93, 94, 50, 427, 428, 429, 430, 51, 52, 469, 470, 471, 699, 700, 701, 702, 703, 704, 705, 706, 707, 708, 742, 743, 744, 745, 746, 747, 758, 759, 760, 761, 762, 763, 764, 765, 748, 749, 750] (by decide +kernel) (by decide +kernel)
set_option maxRecDepth 20000 in
theorem gL_law_X6_builds : GoodIn wsL_law (wsV RL 56 RX6 yX6_builds wsX6_builds) := goodIn_app (goodIn_of _ (by decide +kernel)) ggL_law_X6_builds
set_option maxRecDepth 20000 in
theorem ggL_law_X7_builds : GoodIn wsL_law wsX7_builds := goodIn_r _ [475, 138, 106, 272, 273, 274, 5, 275, 102, 139, 140, 141, 280, 281, 282, 283, 291, 292, 293, 439, 440, 441, 442, 126, 109, 288, 289, 290, 709, 710, 711, 712, 713, 714, 715, 716, 717, 718, 719, 720, 721, 722, 723, 724, 725, 726, 727, 728, 729, 730, 731, 732, 733] (by decide +kernel) (by decide +kernel)
set_option maxRecDepth 20000 in
theorem gL_law_X7_builds : GoodIn wsL_law (wsV RL 59 RX7 yX7_builds wsX7_builds) := goodIn_app (goodIn_of _ (by decide +kernel)) ggL_law_X7_builds
set_option maxRecDepth 20000 in
theorem ggL_law_X6_undo : GoodIn wsL_law wsX6_undo := goodIn_r _ [479, 23, 19, 480, 22, 481, 482, 58, 59, 57, 424, 18, 425, 426, 92, 93, 94, 50, 427, 428, 429, 430, 51, 52, 699, 700, 701, 702, 703, 704, 705, 706, 707, 708, 748, 749, 750, 742, 743, 744, 745, 746, 747] (by decide +kernel) (by decide +kernel)
set_option maxRecDepth 20000 in
theorem gL_law_X6_undo : GoodIn wsL_law (wsV RL 60 RX6 yX6_undo wsX6_undo) := goodIn_app (goodIn_of _ (by decide +kernel)) ggL_law_X6_undo
set_option maxRecDepth 20000 in
theorem ggL_law_X7_undo : GoodIn wsL_law wsX7_undo := goodIn_r _ [486, 138, 126, 106, 109, 709, 710, 711, 712, 713, 714, 715, 716, 717, 718, 719, 720, 721, 722, 723, 724, 725, 726, 727, 728, 729, 730, 731, 732, 733] (by decide +kernel) (by decide +kernel)
set_option maxRecDepth 20000 in
theorem gL_law_X7_undo : GoodIn wsL_law (wsV RL 63 RX7 yX7_undo wsX7_undo) := goodIn_app (goodIn_of _ (by decide +kernel)) ggL_law_X7_undo
set_option maxRecDepth 20000 in
theorem ggL_law_X6_fills : GoodIn wsL_law wsX6_fills := goodIn_r _ [490, 30, 298, 299, 300, 2, 301, 38, 374, 375, 376, 377, 378, 379, 380, 381, 303, 304, 305, 306, 19, 302, 265, 266, 267, 95, 96, 307, 37, 308, 309, 87, 310, 311, 312, 313, 88, 314, 315, 316, 317, 78, 79, 382, 29, 383, 384, 67, 65, 66, 385, 386, 387, 388, 389, 390, 176, 391, 392, 393, 394, 395, 63, 491, 492, 493, 494, 495, 496, 497, 699, 700, 701, 702, 703, 704, 705, 706, 707, 708, 758, 759, 760, 761, 762, 763, 764, 765, 751, 752, 753, 754, 742, 743, 744, 745, 746, 747] (by decide +kernel) (by decide +kernel)
set_option maxRecDepth 20000 in
theorem gL_law_X6_fills : GoodIn wsL_law (wsV RL 64 RX6 yX6_fills wsX6_fills) := goodIn_app (goodIn_of _ (by decide +kernel)) ggL_law_X6_fills
set_option maxRecDepth 20000 in
theorem ggL_law_X7_fills : GoodIn wsL_law wsX7_fills := goodIn_r _ [501, 138, 114, 322, 323, 324, 5, 325, 102, 139, 140, 141, 400, 401, 402, 403, 112, 326, 327, 328, 329, 106, 288, 289, 290, 330, 331, 332, 333, 104, 105, 404, 405, 406, 407, 113, 408, 409, 410, 411, 412, 413, 414, 415, 709, 710, 711, 712, 713, 714, 715, 716, 717, 718, 719, 720, 721, 722, 723, 724, 725, 726, 727, 728, 729, 730, 731, 732, 733] (by decide +kernel) (by decide +kernel)
set_option maxRecDepth 20000 in
theorem gL_law_X7_fills : GoodIn wsL_law (wsV RL 67 RX7 yX7_fills wsX7_fills) := goodIn_app (goodIn_of _ (by decide +kernel)) ggL_law_X7_fills
set_option maxRecDepth 20000 in
theorem ggL_law_X6_carry : GoodIn wsL_law wsX6_carry := goodIn_r _ [505, 19, 38, 30, 298, 299, 300, 2, 301, 302, 265, 266, 267, 95, 96, 378, 379, 380, 381, 303, 304, 305, 306, 307, 37, 308, 309, 87, 310, 311, 312, 313, 88, 314, 315, 316, 317, 78, 79, 258, 18, 259, 260, 51, 261, 262, 263, 264, 50, 382, 29, 383, 384, 67, 65, 66, 385, 386, 387, 388, 389, 390, 176, 391, 392, 393, 394, 395, 63, 699, 700, 701, 702, 703, 704, 705, 706, 707, 708, 742, 743, 744, 745, 746, 747, 758, 759, 760, 761, 762, 763, 764, 765, 751, 752, 753, 754] (by decide +kernel) (by decide +kernel)
set_option maxRecDepth 20000 in
theorem gL_law_X6_carry : GoodIn wsL_law (wsV RL 68 RX6 yX6_carry wsX6_carry) := goodIn_app (goodIn_of _ (by decide +kernel)) ggL_law_X6_carry
set_option maxRecDepth 20000 in
theorem ggL_law_X7_carry : GoodIn wsL_law wsX7_carry := goodIn_r _ [509, 138, 106, 102, 112, 322, 323, 324, 5, 325, 139, 140, 141, 288, 289, 290, 400, 401, 402, 403, 326, 327, 328, 329, 330, 331, 332, 333, 104, 105, 276, 277, 278, 279, 280, 281, 282, 283, 284, 285, 286, 287, 291, 292, 293, 404, 405, 406, 407, 114, 113, 408, 409, 410, 411, 412, 413, 414, 415, 709, 710, 711, 712, 713, 714, 715, 716, 717, 718, 719, 720, 721, 722, 723, 724, 725, 726, 727, 728, 729, 730, 731, 732, 733] (by decide +kernel) (by decide +kernel)
set_option maxRecDepth 20000 in
theorem gL_law_X7_carry : GoodIn wsL_law (wsV RL 71 RX7 yX7_carry wsX7_carry) := goodIn_app (goodIn_of _ (by decide +kernel)) ggL_law_X7_carry
set_option maxRecDepth 20000 in
theorem ggL_law_X6_join : GoodIn wsL_law wsX6_join := goodIn_r _ [513, 38, 19, 267, 95, 2, 96, 514, 515, 516, 517, 518, 519, 520, 262, 18, 263, 264, 50, 265, 266, 699, 700, 701, 702, 703, 704, 705, 706, 707, 708, 758, 759, 760, 761, 762, 763, 764, 765, 742, 743, 744, 745, 746, 747] (by decide +kernel) (by decide +kernel)
set_option maxRecDepth 20000 in
theorem gL_law_X6_join : GoodIn wsL_law (wsV RL 72 RX6 yX6_join wsX6_join) := goodIn_app (goodIn_of _ (by decide +kernel)) ggL_law_X6_join
set_option maxRecDepth 20000 in
theorem ggL_law_X7_join : GoodIn wsL_law wsX7_join := goodIn_r _ [524, 138, 102, 139, 140, 5, 141, 284, 285, 286, 287, 106, 288, 289, 290, 291, 292, 293, 709, 710, 711, 712, 713, 714, 715, 716, 717, 718, 719, 720, 721, 722, 723, 724, 725, 726, 727, 728, 729, 730, 731, 732, 733] (by decide +kernel) (by decide +kernel)
set_option maxRecDepth 20000 in
theorem gL_law_X7_join : GoodIn wsL_law (wsV RL 75 RX7 yX7_join wsX7_join) := goodIn_app (goodIn_of _ (by decide +kernel)) ggL_law_X7_join
set_option maxRecDepth 20000 in
theorem ggL_law_X6_elder : GoodIn wsL_law wsX6_elder := goodIn_r _ [528, 38, 19, 302, 265, 2, 266, 267, 95, 96, 529, 18, 530, 531, 52, 94, 699, 700, 701, 702, 703, 704, 705, 706, 707, 708, 758, 759, 760, 761, 762, 763, 764, 765, 742, 743, 744, 745, 746, 747] (by decide +kernel) (by decide +kernel)
set_option maxRecDepth 20000 in
theorem gL_law_X6_elder : GoodIn wsL_law (wsV RL 76 RX6 yX6_elder wsX6_elder) := goodIn_app (goodIn_of _ (by decide +kernel)) ggL_law_X6_elder
set_option maxRecDepth 20000 in
theorem ggL_law_X7_elder : GoodIn wsL_law wsX7_elder := goodIn_r _ [535, 138, 102, 106, 139, 140, 5, 141, 288, 289, 290, 709, 710, 711, 712, 713, 714, 715, 716, 717, 718, 719, 720, 721, 722, 723, 724, 725, 726, 727, 728, 729, 730, 731, 732, 733] (by decide +kernel) (by decide +kernel)
set_option maxRecDepth 20000 in
theorem gL_law_X7_elder : GoodIn wsL_law (wsV RL 79 RX7 yX7_elder wsX7_elder) := goodIn_app (goodIn_of _ (by decide +kernel)) ggL_law_X7_elder
set_option maxRecDepth 20000 in
theorem ggL_law_X6_odds : GoodIn wsL_law wsX6_odds := goodIn_r _ [539, 38, 19, 338, 339, 340, 2, 341, 514, 515, 516, 517, 518, 519, 520, 540, 541, 542, 543, 544, 545, 546, 258, 18, 259, 260, 51, 261, 262, 263, 264, 50, 265, 266, 267, 95, 96, 311, 37, 312, 313, 88, 314, 315, 316, 317, 78, 79, 547, 548, 549, 699, 700, 701, 702, 703, 704, 705, 706, 707, 708, 758, 759, 760, 761, 762, 763, 764, 765, 742, 743, 744, 745, 746, 747] (by decide +kernel) (by decide +kernel)
set_option maxRecDepth 20000 in
theorem gL_law_X6_odds : GoodIn wsL_law (wsV RL 80 RX6 yX6_odds wsX6_odds) := goodIn_app (goodIn_of _ (by decide +kernel)) ggL_law_X6_odds
set_option maxRecDepth 20000 in
theorem ggL_law_X7_odds : GoodIn wsL_law wsX7_odds := goodIn_r _ [553, 138, 102, 106, 104, 105, 354, 355, 356, 5, 357, 139, 140, 141, 291, 292, 293, 276, 277, 278, 279, 280, 281, 282, 283, 284, 285, 286, 287, 288, 289, 290, 554, 555, 556, 557, 558, 559, 709, 710, 711, 712, 713, 714, 715, 716, 717, 718, 719, 720, 721, 722, 723, 724, 725, 726, 727, 728, 729, 730, 731, 732, 733] (by decide +kernel) (by decide +kernel)
set_option maxRecDepth 20000 in
theorem gL_law_X7_odds : GoodIn wsL_law (wsV RL 83 RX7 yX7_odds wsX7_odds) := goodIn_app (goodIn_of _ (by decide +kernel)) ggL_law_X7_odds
set_option maxRecDepth 20000 in
theorem ggL_law_X6_sees : GoodIn wsL_law wsX6_sees := goodIn_r _ [563, 34, 338, 339, 340, 2, 341, 38, 564, 33, 565, 566, 71, 73, 72, 699, 700, 701, 702, 703, 704, 705, 706, 707, 708, 755, 756, 757, 758, 759, 760, 761, 762, 763, 764, 765] (by decide +kernel) (by decide +kernel)
set_option maxRecDepth 20000 in
theorem gL_law_X6_sees : GoodIn wsL_law (wsV RL 84 RX6 yX6_sees wsX6_sees) := goodIn_app (goodIn_of _ (by decide +kernel)) ggL_law_X6_sees
set_option maxRecDepth 20000 in
theorem ggL_law_X7_sees : GoodIn wsL_law wsX7_sees := goodIn_r _ [570, 138, 125, 110, 111, 354, 355, 356, 5, 357, 102, 139, 140, 141, 709, 710, 711, 712, 713, 714, 715, 716, 717, 718, 719, 720, 721, 722, 723, 724, 725, 726, 727, 728, 729, 730, 731, 732, 733] (by decide +kernel) (by decide +kernel)
set_option maxRecDepth 20000 in
theorem gL_law_X7_sees : GoodIn wsL_law (wsV RL 87 RX7 yX7_sees wsX7_sees) := goodIn_app (goodIn_of _ (by decide +kernel)) ggL_law_X7_sees
set_option maxRecDepth 20000 in
theorem ggL_law_X6_forget : GoodIn wsL_law wsX6_forget := goodIn_r _ [574, 34, 699, 700, 701, 702, 703, 704, 705, 706, 707, 708, 755, 756, 757] (by decide +kernel) (by decide +kernel)
set_option maxRecDepth 20000 in
theorem gL_law_X6_forget : GoodIn wsL_law (wsV RL 88 RX6 yX6_forget wsX6_forget) := goodIn_app (goodIn_of _ (by decide +kernel)) ggL_law_X6_forget
set_option maxRecDepth 20000 in
theorem ggL_law_X7_forget : GoodIn wsL_law wsX7_forget := goodIn_r _ [578, 138, 125, 709, 710, 711, 712, 713, 714, 715, 716, 717, 718, 719, 720, 721, 722, 723, 724, 725, 726, 727, 728, 729, 730, 731, 732, 733] (by decide +kernel) (by decide +kernel)
set_option maxRecDepth 20000 in
theorem gL_law_X7_forget : GoodIn wsL_law (wsV RL 91 RX7 yX7_forget wsX7_forget) := goodIn_app (goodIn_of _ (by decide +kernel)) ggL_law_X7_forget
set_option maxRecDepth 20000 in
theorem ggL_law_X6_ages : GoodIn wsL_law wsX6_ages := goodIn_r _ [582, 583, 584, 585, 2, 586, 34, 38, 587, 33, 588, 589, 73, 71, 72, 315, 37, 316, 317, 78, 79, 590, 591, 592, 593, 594, 595, 596, 597, 699, 700, 701, 702, 703, 704, 705, 706, 707, 708, 755, 756, 757, 758, 759, 760, 761, 762, 763, 764, 765] (by decide +kernel) (by decide +kernel)
set_option maxRecDepth 20000 in
theorem gL_law_X6_ages : GoodIn wsL_law (wsV RL 92 RX6 yX6_ages wsX6_ages) := goodIn_app (goodIn_of _ (by decide +kernel)) ggL_law_X6_ages
set_option maxRecDepth 20000 in
theorem ggL_law_X7_ages : GoodIn wsL_law wsX7_ages := goodIn_r _ [601, 138, 139, 140, 5, 141, 602, 603, 604, 605, 125, 110, 111, 330, 331, 332, 333, 102, 104, 105, 709, 710, 711, 712, 713, 714, 715, 716, 717, 718, 719, 720, 721, 722, 723, 724, 725, 726, 727, 728, 729, 730, 731, 732, 733] (by decide +kernel) (by decide +kernel)
set_option maxRecDepth 20000 in
theorem gL_law_X7_ages : GoodIn wsL_law (wsV RL 95 RX7 yX7_ages wsX7_ages) := goodIn_app (goodIn_of _ (by decide +kernel)) ggL_law_X7_ages
set_option maxRecDepth 20000 in
theorem ggL_law_X6_next : GoodIn wsL_law wsX6_next := goodIn_r _ [609, 38, 610, 390, 176, 391, 583, 584, 585, 2, 586, 34, 587, 33, 588, 589, 73, 71, 72, 315, 37, 316, 317, 78, 79, 611, 612, 613, 614, 699, 700, 701, 702, 703, 704, 705, 706, 707, 708, 758, 759, 760, 761, 762, 763, 764, 765, 755, 756, 757] (by decide +kernel) (by decide +kernel)
set_option maxRecDepth 20000 in
theorem gL_law_X6_next : GoodIn wsL_law (wsV RL 96 RX6 yX6_next wsX6_next) := goodIn_app (goodIn_of _ (by decide +kernel)) ggL_law_X6_next
set_option maxRecDepth 20000 in
theorem ggL_law_X7_next : GoodIn wsL_law wsX7_next := goodIn_r _ [618, 138, 102, 602, 603, 604, 5, 605, 125, 110, 111, 330, 331, 332, 333, 104, 105, 139, 140, 141, 288, 289, 290, 709, 710, 711, 712, 713, 714, 715, 716, 717, 718, 719, 720, 721, 722, 723, 724, 725, 726, 727, 728, 729, 730, 731, 732, 733] (by decide +kernel) (by decide +kernel)
set_option maxRecDepth 20000 in
theorem gL_law_X7_next : GoodIn wsL_law (wsV RL 99 RX7 yX7_next wsX7_next) := goodIn_app (goodIn_of _ (by decide +kernel)) ggL_law_X7_next
set_option maxRecDepth 20000 in
theorem ggL_law_X6_rate : GoodIn wsL_law wsX6_rate := goodIn_r _ [622, 623, 298, 299, 300, 2, 301, 38, 624, 625, 626, 627, 40, 628, 19, 629, 630, 631, 632, 302, 265, 266, 267, 95, 96, 633, 634, 635, 636, 637, 303, 304, 305, 306, 307, 37, 308, 309, 87, 310, 311, 312, 313, 88, 314, 315, 316, 317, 78, 79, 514, 515, 516, 517, 518, 519, 520, 638, 639, 640, 641, 642, 643, 644, 645, 646, 647, 648, 649, 650, 651, 652, 699, 700, 701, 702, 703, 704, 705, 706, 707, 708, 758, 759, 760, 761, 762, 763, 764, 765, 742, 743, 744, 745, 746, 747] (by decide +kernel) (by decide +kernel)
set_option maxRecDepth 20000 in
theorem gL_law_X6_rate : GoodIn wsL_law (wsV RL 100 RX6 yX6_rate wsX6_rate) := goodIn_app (goodIn_of _ (by decide +kernel)) ggL_law_X6_rate
set_option maxRecDepth 20000 in
theorem ggL_law_X7_rate : GoodIn wsL_law wsX7_rate := goodIn_r _ [656, 138, 657, 106, 658, 659, 660, 661, 662, 663, 139, 140, 5, 141, 322, 323, 324, 325, 102, 288, 289, 290, 326, 327, 328, 329, 330, 331, 332, 333, 104, 105, 291, 292, 293, 709, 710, 711, 712, 713, 714, 715, 716, 717, 718, 719, 720, 721, 722, 723, 724, 725, 726, 727, 728, 729, 730, 731, 732, 733] (by decide +kernel) (by decide +kernel)
set_option maxRecDepth 20000 in
theorem gL_law_X7_rate : GoodIn wsL_law (wsV RL 103 RX7 yX7_rate wsX7_rate) := goodIn_app (goodIn_of _ (by decide +kernel)) ggL_law_X7_rate
set_option maxRecDepth 20000 in
theorem ggL_law_X6_keep : GoodIn wsL_law wsX6_keep := goodIn_r _ [667, 24, 19, 26, 668, 669, 2, 670, 424, 18, 425, 426, 92, 93, 94, 50, 427, 428, 429, 430, 51, 52, 699, 700, 701, 702, 703, 704, 705, 706, 707, 708, 742, 743, 744, 745, 746, 747] (by decide +kernel) (by decide +kernel)
set_option maxRecDepth 20000 in
theorem gL_law_X6_keep : GoodIn wsL_law (wsV RL 104 RX6 yX6_keep wsX6_keep) := goodIn_app (goodIn_of _ (by decide +kernel)) ggL_law_X6_keep
set_option maxRecDepth 20000 in
theorem ggL_law_X7_keep : GoodIn wsL_law wsX7_keep := goodIn_r _ [674, 138, 107, 106, 108, 139, 140, 5, 141, 709, 710, 711, 712, 713, 714, 715, 716, 717, 718, 719, 720, 721, 722, 723, 724, 725, 726, 727, 728, 729, 730, 731, 732, 733] (by decide +kernel) (by decide +kernel)
set_option maxRecDepth 20000 in
theorem gL_law_X7_keep : GoodIn wsL_law (wsV RL 107 RX7 yX7_keep wsX7_keep) := goodIn_app (goodIn_of _ (by decide +kernel)) ggL_law_X7_keep
set_option maxRecDepth 20000 in
theorem ggL_law_X6_back : GoodIn wsL_law wsX6_back := goodIn_r _ [678, 26, 19, 24, 23, 668, 669, 2, 670, 424, 18, 425, 426, 92, 93, 94, 50, 427, 428, 429, 430, 51, 52, 699, 700, 701, 702, 703, 704, 705, 706, 707, 708, 748, 749, 750, 742, 743, 744, 745, 746, 747] (by decide +kernel) (by decide +kernel)
set_option maxRecDepth 20000 in
theorem gL_law_X6_back : GoodIn wsL_law (wsV RL 108 RX6 yX6_back wsX6_back) := goodIn_app (goodIn_of _ (by decide +kernel)) ggL_law_X6_back
set_option maxRecDepth 20000 in
theorem ggL_law_X7_back : GoodIn wsL_law wsX7_back := goodIn_r _ [682, 138, 108, 106, 107, 126, 139, 140, 5, 141, 709, 710, 711, 712, 713, 714, 715, 716, 717, 718, 719, 720, 721, 722, 723, 724, 725, 726, 727, 728, 729, 730, 731, 732, 733] (by decide +kernel) (by decide +kernel)
set_option maxRecDepth 20000 in
theorem gL_law_X7_back : GoodIn wsL_law (wsV RL 111 RX7 yX7_back wsX7_back) := goodIn_app (goodIn_of _ (by decide +kernel)) ggL_law_X7_back
set_option maxRecDepth 20000 in
theorem ggL_law_X6_count : GoodIn wsL_law wsX6_count := goodIn_r _ [686, 38, 34, 15, 699, 700, 701, 702, 703, 704, 705, 706, 707, 708, 758, 759, 760, 761, 762, 763, 764, 765, 755, 756, 757, 734, 735, 736, 737, 738, 739, 740, 741] (by decide +kernel) (by decide +kernel)
set_option maxRecDepth 20000 in
theorem gL_law_X6_count : GoodIn wsL_law (wsV RL 112 RX6 yX6_count wsX6_count) := goodIn_app (goodIn_of _ (by decide +kernel)) ggL_law_X6_count
set_option maxRecDepth 20000 in
theorem ggL_law_X7_count : GoodIn wsL_law wsX7_count := goodIn_r _ [690, 138, 102, 125, 124, 139, 140, 5, 141, 709, 710, 711, 712, 713, 714, 715, 716, 717, 718, 719, 720, 721, 722, 723, 724, 725, 726, 727, 728, 729, 730, 731, 732, 733] (by decide +kernel) (by decide +kernel)
set_option maxRecDepth 20000 in
theorem gL_law_X7_count : GoodIn wsL_law (wsV RL 115 RX7 yX7_count wsX7_count) := goodIn_app (goodIn_of _ (by decide +kernel)) ggL_law_X7_count
set_option maxRecDepth 20000 in
theorem ggL_law_X6_trace : GoodIn wsL_law wsX6_trace := goodIn_r _ [694, 40, 699, 700, 701, 702, 703, 704, 705, 706, 707, 708] (by decide +kernel) (by decide +kernel)
set_option maxRecDepth 20000 in
theorem gL_law_X6_trace : GoodIn wsL_law (wsV RL 116 RX6 yX6_trace wsX6_trace) := goodIn_app (goodIn_of _ (by decide +kernel)) ggL_law_X6_trace
set_option maxRecDepth 20000 in
theorem ggL_law_X7_trace : GoodIn wsL_law wsX7_trace := goodIn_r _ [698, 138, 658, 709, 710, 711, 712, 713, 714, 715, 716, 717, 718, 719, 720, 721, 722, 723, 724, 725, 726, 727, 728, 729, 730, 731, 732, 733] (by decide +kernel) (by decide +kernel)
set_option maxRecDepth 20000 in
theorem gL_law_X7_trace : GoodIn wsL_law (wsV RL 120 RX7 yX7_trace wsX7_trace) := goodIn_app (goodIn_of _ (by decide +kernel)) ggL_law_X7_trace
theorem dL_law_0 : decode cL_law 0 = .ok (.new 7, 3) := by decide +kernel
theorem dL_law_3 : decode cL_law 3 = .ok (.dup, 1) := by decide +kernel
theorem dL_law_4 : decode cL_law 4 = .ok (.invokespecial 9, 3) := by decide +kernel
theorem dL_law_7 : decode cL_law 7 = .ok (.astore_n 1, 1) := by decide +kernel
theorem dL_law_8 : decode cL_law 8 = .ok (.new 10, 3) := by decide +kernel
theorem dL_law_11 : decode cL_law 11 = .ok (.dup, 1) := by decide +kernel
theorem dL_law_12 : decode cL_law 12 = .ok (.invokespecial 12, 3) := by decide +kernel
theorem dL_law_15 : decode cL_law 15 = .ok (.astore_n 2, 1) := by decide +kernel
theorem dL_law_16 : decode cL_law 16 = .ok (.iconst 0, 1) := by decide +kernel
theorem dL_law_17 : decode cL_law 17 = .ok (.istore_n 3, 1) := by decide +kernel
theorem dL_law_18 : decode cL_law 18 = .ok (.iload_n 3, 1) := by decide +kernel
theorem dL_law_19 : decode cL_law 19 = .ok (.aload_n 0, 1) := by decide +kernel
theorem dL_law_20 : decode cL_law 20 = .ok (.arraylength, 1) := by decide +kernel
theorem dL_law_21 : decode cL_law 21 = .ok (.iconst 3, 1) := by decide +kernel
theorem dL_law_22 : decode cL_law 22 = .ok (.isub, 1) := by decide +kernel
theorem dL_law_23 : decode cL_law 23 = .ok (.if_icmp .gt 754, 3) := by decide +kernel
theorem dL_law_26 : decode cL_law 26 = .ok (.aload_n 0, 1) := by decide +kernel
theorem dL_law_27 : decode cL_law 27 = .ok (.iload_n 3, 1) := by decide +kernel
theorem dL_law_28 : decode cL_law 28 = .ok (.iaload, 1) := by decide +kernel
theorem dL_law_29 : decode cL_law 29 = .ok (.bipush 31, 2) := by decide +kernel
theorem dL_law_31 : decode cL_law 31 = .ok (.iand, 1) := by decide +kernel
theorem dL_law_32 : decode cL_law 32 = .ok (.tableswitch 739 0 25 #[120, 143, 156, 169, 202, 235, 268, 291, 324, 337, 370, 393, 406, 429, 462, 485, 508, 541, 574, 587, 610, 623, 656, 679, 702, 725], 120) := by decide +kernel
theorem dL_law_152 : decode cL_law 152 = .ok (.aload_n 1, 1) := by decide +kernel
theorem dL_law_153 : decode cL_law 153 = .ok (.aload_n 0, 1) := by decide +kernel
theorem dL_law_154 : decode cL_law 154 = .ok (.iload_n 3, 1) := by decide +kernel
theorem dL_law_155 : decode cL_law 155 = .ok (.iconst 1, 1) := by decide +kernel
theorem dL_law_156 : decode cL_law 156 = .ok (.iadd, 1) := by decide +kernel
theorem dL_law_157 : decode cL_law 157 = .ok (.iaload, 1) := by decide +kernel
theorem dL_law_158 : decode cL_law 158 = .ok (.invokevirtual 13, 3) := by decide +kernel
theorem dL_law_161 : decode cL_law 161 = .ok (.aload_n 2, 1) := by decide +kernel
theorem dL_law_162 : decode cL_law 162 = .ok (.aload_n 0, 1) := by decide +kernel
theorem dL_law_163 : decode cL_law 163 = .ok (.iload_n 3, 1) := by decide +kernel
theorem dL_law_164 : decode cL_law 164 = .ok (.iconst 1, 1) := by decide +kernel
theorem dL_law_165 : decode cL_law 165 = .ok (.iadd, 1) := by decide +kernel
theorem dL_law_166 : decode cL_law 166 = .ok (.iaload, 1) := by decide +kernel
theorem dL_law_167 : decode cL_law 167 = .ok (.invokevirtual 17, 3) := by decide +kernel
theorem dL_law_170 : decode cL_law 170 = .ok (.if_icmp .eq 601, 3) := by decide +kernel
theorem dL_law_173 : decode cL_law 173 = .ok (.iconst 0, 1) := by decide +kernel
theorem dL_law_174 : decode cL_law 174 = .ok (.ireturn, 1) := by decide +kernel
theorem dL_law_175 : decode cL_law 175 = .ok (.aload_n 1, 1) := by decide +kernel
theorem dL_law_176 : decode cL_law 176 = .ok (.invokevirtual 18, 3) := by decide +kernel
theorem dL_law_179 : decode cL_law 179 = .ok (.aload_n 2, 1) := by decide +kernel
theorem dL_law_180 : decode cL_law 180 = .ok (.invokevirtual 22, 3) := by decide +kernel
theorem dL_law_183 : decode cL_law 183 = .ok (.if_icmp .eq 588, 3) := by decide +kernel
theorem dL_law_186 : decode cL_law 186 = .ok (.iconst 0, 1) := by decide +kernel
theorem dL_law_187 : decode cL_law 187 = .ok (.ireturn, 1) := by decide +kernel
theorem dL_law_188 : decode cL_law 188 = .ok (.aload_n 1, 1) := by decide +kernel
theorem dL_law_189 : decode cL_law 189 = .ok (.invokevirtual 23, 3) := by decide +kernel
theorem dL_law_192 : decode cL_law 192 = .ok (.aload_n 2, 1) := by decide +kernel
theorem dL_law_193 : decode cL_law 193 = .ok (.invokevirtual 26, 3) := by decide +kernel
theorem dL_law_196 : decode cL_law 196 = .ok (.if_icmp .eq 575, 3) := by decide +kernel
theorem dL_law_199 : decode cL_law 199 = .ok (.iconst 0, 1) := by decide +kernel
theorem dL_law_200 : decode cL_law 200 = .ok (.ireturn, 1) := by decide +kernel
theorem dL_law_201 : decode cL_law 201 = .ok (.aload_n 1, 1) := by decide +kernel
theorem dL_law_202 : decode cL_law 202 = .ok (.aload_n 0, 1) := by decide +kernel
theorem dL_law_203 : decode cL_law 203 = .ok (.iload_n 3, 1) := by decide +kernel
theorem dL_law_204 : decode cL_law 204 = .ok (.iconst 1, 1) := by decide +kernel
theorem dL_law_205 : decode cL_law 205 = .ok (.iadd, 1) := by decide +kernel
theorem dL_law_206 : decode cL_law 206 = .ok (.iaload, 1) := by decide +kernel
theorem dL_law_207 : decode cL_law 207 = .ok (.aload_n 0, 1) := by decide +kernel
theorem dL_law_208 : decode cL_law 208 = .ok (.iload_n 3, 1) := by decide +kernel
theorem dL_law_209 : decode cL_law 209 = .ok (.iconst 2, 1) := by decide +kernel
theorem dL_law_210 : decode cL_law 210 = .ok (.iadd, 1) := by decide +kernel
theorem dL_law_211 : decode cL_law 211 = .ok (.iaload, 1) := by decide +kernel
theorem dL_law_212 : decode cL_law 212 = .ok (.invokevirtual 27, 3) := by decide +kernel
theorem dL_law_215 : decode cL_law 215 = .ok (.aload_n 2, 1) := by decide +kernel
theorem dL_law_216 : decode cL_law 216 = .ok (.aload_n 0, 1) := by decide +kernel
theorem dL_law_217 : decode cL_law 217 = .ok (.iload_n 3, 1) := by decide +kernel
theorem dL_law_218 : decode cL_law 218 = .ok (.iconst 1, 1) := by decide +kernel
theorem dL_law_219 : decode cL_law 219 = .ok (.iadd, 1) := by decide +kernel
theorem dL_law_220 : decode cL_law 220 = .ok (.iaload, 1) := by decide +kernel
theorem dL_law_221 : decode cL_law 221 = .ok (.aload_n 0, 1) := by decide +kernel
theorem dL_law_222 : decode cL_law 222 = .ok (.iload_n 3, 1) := by decide +kernel
theorem dL_law_223 : decode cL_law 223 = .ok (.iconst 2, 1) := by decide +kernel
theorem dL_law_224 : decode cL_law 224 = .ok (.iadd, 1) := by decide +kernel
theorem dL_law_225 : decode cL_law 225 = .ok (.iaload, 1) := by decide +kernel
theorem dL_law_226 : decode cL_law 226 = .ok (.invokevirtual 31, 3) := by decide +kernel
theorem dL_law_229 : decode cL_law 229 = .ok (.if_icmp .eq 542, 3) := by decide +kernel
theorem dL_law_232 : decode cL_law 232 = .ok (.iconst 0, 1) := by decide +kernel
theorem dL_law_233 : decode cL_law 233 = .ok (.ireturn, 1) := by decide +kernel
theorem dL_law_234 : decode cL_law 234 = .ok (.aload_n 1, 1) := by decide +kernel
theorem dL_law_235 : decode cL_law 235 = .ok (.aload_n 0, 1) := by decide +kernel
theorem dL_law_236 : decode cL_law 236 = .ok (.iload_n 3, 1) := by decide +kernel
theorem dL_law_237 : decode cL_law 237 = .ok (.iconst 1, 1) := by decide +kernel
theorem dL_law_238 : decode cL_law 238 = .ok (.iadd, 1) := by decide +kernel
theorem dL_law_239 : decode cL_law 239 = .ok (.iaload, 1) := by decide +kernel
theorem dL_law_240 : decode cL_law 240 = .ok (.aload_n 0, 1) := by decide +kernel
theorem dL_law_241 : decode cL_law 241 = .ok (.iload_n 3, 1) := by decide +kernel
theorem dL_law_242 : decode cL_law 242 = .ok (.iconst 2, 1) := by decide +kernel
theorem dL_law_243 : decode cL_law 243 = .ok (.iadd, 1) := by decide +kernel
theorem dL_law_244 : decode cL_law 244 = .ok (.iaload, 1) := by decide +kernel
theorem dL_law_245 : decode cL_law 245 = .ok (.invokevirtual 32, 3) := by decide +kernel
theorem dL_law_248 : decode cL_law 248 = .ok (.aload_n 2, 1) := by decide +kernel
theorem dL_law_249 : decode cL_law 249 = .ok (.aload_n 0, 1) := by decide +kernel
theorem dL_law_250 : decode cL_law 250 = .ok (.iload_n 3, 1) := by decide +kernel
theorem dL_law_251 : decode cL_law 251 = .ok (.iconst 1, 1) := by decide +kernel
theorem dL_law_252 : decode cL_law 252 = .ok (.iadd, 1) := by decide +kernel
theorem dL_law_253 : decode cL_law 253 = .ok (.iaload, 1) := by decide +kernel
theorem dL_law_254 : decode cL_law 254 = .ok (.aload_n 0, 1) := by decide +kernel
theorem dL_law_255 : decode cL_law 255 = .ok (.iload_n 3, 1) := by decide +kernel
theorem dL_law_256 : decode cL_law 256 = .ok (.iconst 2, 1) := by decide +kernel
theorem dL_law_257 : decode cL_law 257 = .ok (.iadd, 1) := by decide +kernel
theorem dL_law_258 : decode cL_law 258 = .ok (.iaload, 1) := by decide +kernel
theorem dL_law_259 : decode cL_law 259 = .ok (.invokevirtual 35, 3) := by decide +kernel
theorem dL_law_262 : decode cL_law 262 = .ok (.if_icmp .eq 509, 3) := by decide +kernel
theorem dL_law_265 : decode cL_law 265 = .ok (.iconst 0, 1) := by decide +kernel
theorem dL_law_266 : decode cL_law 266 = .ok (.ireturn, 1) := by decide +kernel
theorem dL_law_267 : decode cL_law 267 = .ok (.aload_n 1, 1) := by decide +kernel
theorem dL_law_268 : decode cL_law 268 = .ok (.aload_n 0, 1) := by decide +kernel
theorem dL_law_269 : decode cL_law 269 = .ok (.iload_n 3, 1) := by decide +kernel
theorem dL_law_270 : decode cL_law 270 = .ok (.iconst 1, 1) := by decide +kernel
theorem dL_law_271 : decode cL_law 271 = .ok (.iadd, 1) := by decide +kernel
theorem dL_law_272 : decode cL_law 272 = .ok (.iaload, 1) := by decide +kernel
theorem dL_law_273 : decode cL_law 273 = .ok (.aload_n 0, 1) := by decide +kernel
theorem dL_law_274 : decode cL_law 274 = .ok (.iload_n 3, 1) := by decide +kernel
theorem dL_law_275 : decode cL_law 275 = .ok (.iconst 2, 1) := by decide +kernel
theorem dL_law_276 : decode cL_law 276 = .ok (.iadd, 1) := by decide +kernel
theorem dL_law_277 : decode cL_law 277 = .ok (.iaload, 1) := by decide +kernel
theorem dL_law_278 : decode cL_law 278 = .ok (.invokevirtual 36, 3) := by decide +kernel
theorem dL_law_281 : decode cL_law 281 = .ok (.aload_n 2, 1) := by decide +kernel
theorem dL_law_282 : decode cL_law 282 = .ok (.aload_n 0, 1) := by decide +kernel
theorem dL_law_283 : decode cL_law 283 = .ok (.iload_n 3, 1) := by decide +kernel
theorem dL_law_284 : decode cL_law 284 = .ok (.iconst 1, 1) := by decide +kernel
theorem dL_law_285 : decode cL_law 285 = .ok (.iadd, 1) := by decide +kernel
theorem dL_law_286 : decode cL_law 286 = .ok (.iaload, 1) := by decide +kernel
theorem dL_law_287 : decode cL_law 287 = .ok (.aload_n 0, 1) := by decide +kernel
theorem dL_law_288 : decode cL_law 288 = .ok (.iload_n 3, 1) := by decide +kernel
theorem dL_law_289 : decode cL_law 289 = .ok (.iconst 2, 1) := by decide +kernel
theorem dL_law_290 : decode cL_law 290 = .ok (.iadd, 1) := by decide +kernel
theorem dL_law_291 : decode cL_law 291 = .ok (.iaload, 1) := by decide +kernel
theorem dL_law_292 : decode cL_law 292 = .ok (.invokevirtual 39, 3) := by decide +kernel
theorem dL_law_295 : decode cL_law 295 = .ok (.if_icmp .eq 476, 3) := by decide +kernel
theorem dL_law_298 : decode cL_law 298 = .ok (.iconst 0, 1) := by decide +kernel
theorem dL_law_299 : decode cL_law 299 = .ok (.ireturn, 1) := by decide +kernel
theorem dL_law_300 : decode cL_law 300 = .ok (.aload_n 1, 1) := by decide +kernel
theorem dL_law_301 : decode cL_law 301 = .ok (.aload_n 0, 1) := by decide +kernel
theorem dL_law_302 : decode cL_law 302 = .ok (.iload_n 3, 1) := by decide +kernel
theorem dL_law_303 : decode cL_law 303 = .ok (.iconst 1, 1) := by decide +kernel
theorem dL_law_304 : decode cL_law 304 = .ok (.iadd, 1) := by decide +kernel
theorem dL_law_305 : decode cL_law 305 = .ok (.iaload, 1) := by decide +kernel
theorem dL_law_306 : decode cL_law 306 = .ok (.invokevirtual 40, 3) := by decide +kernel
theorem dL_law_309 : decode cL_law 309 = .ok (.aload_n 2, 1) := by decide +kernel
theorem dL_law_310 : decode cL_law 310 = .ok (.aload_n 0, 1) := by decide +kernel
theorem dL_law_311 : decode cL_law 311 = .ok (.iload_n 3, 1) := by decide +kernel
theorem dL_law_312 : decode cL_law 312 = .ok (.iconst 1, 1) := by decide +kernel
theorem dL_law_313 : decode cL_law 313 = .ok (.iadd, 1) := by decide +kernel
theorem dL_law_314 : decode cL_law 314 = .ok (.iaload, 1) := by decide +kernel
theorem dL_law_315 : decode cL_law 315 = .ok (.invokevirtual 43, 3) := by decide +kernel
theorem dL_law_318 : decode cL_law 318 = .ok (.if_icmp .eq 453, 3) := by decide +kernel
theorem dL_law_321 : decode cL_law 321 = .ok (.iconst 0, 1) := by decide +kernel
theorem dL_law_322 : decode cL_law 322 = .ok (.ireturn, 1) := by decide +kernel
theorem dL_law_323 : decode cL_law 323 = .ok (.aload_n 1, 1) := by decide +kernel
theorem dL_law_324 : decode cL_law 324 = .ok (.aload_n 0, 1) := by decide +kernel
theorem dL_law_325 : decode cL_law 325 = .ok (.iload_n 3, 1) := by decide +kernel
theorem dL_law_326 : decode cL_law 326 = .ok (.iconst 1, 1) := by decide +kernel
theorem dL_law_327 : decode cL_law 327 = .ok (.iadd, 1) := by decide +kernel
theorem dL_law_328 : decode cL_law 328 = .ok (.iaload, 1) := by decide +kernel
theorem dL_law_329 : decode cL_law 329 = .ok (.aload_n 0, 1) := by decide +kernel
theorem dL_law_330 : decode cL_law 330 = .ok (.iload_n 3, 1) := by decide +kernel
theorem dL_law_331 : decode cL_law 331 = .ok (.iconst 2, 1) := by decide +kernel
theorem dL_law_332 : decode cL_law 332 = .ok (.iadd, 1) := by decide +kernel
theorem dL_law_333 : decode cL_law 333 = .ok (.iaload, 1) := by decide +kernel
theorem dL_law_334 : decode cL_law 334 = .ok (.invokevirtual 44, 3) := by decide +kernel
theorem dL_law_337 : decode cL_law 337 = .ok (.aload_n 2, 1) := by decide +kernel
theorem dL_law_338 : decode cL_law 338 = .ok (.aload_n 0, 1) := by decide +kernel
theorem dL_law_339 : decode cL_law 339 = .ok (.iload_n 3, 1) := by decide +kernel
theorem dL_law_340 : decode cL_law 340 = .ok (.iconst 1, 1) := by decide +kernel
theorem dL_law_341 : decode cL_law 341 = .ok (.iadd, 1) := by decide +kernel
theorem dL_law_342 : decode cL_law 342 = .ok (.iaload, 1) := by decide +kernel
theorem dL_law_343 : decode cL_law 343 = .ok (.aload_n 0, 1) := by decide +kernel
theorem dL_law_344 : decode cL_law 344 = .ok (.iload_n 3, 1) := by decide +kernel
theorem dL_law_345 : decode cL_law 345 = .ok (.iconst 2, 1) := by decide +kernel
theorem dL_law_346 : decode cL_law 346 = .ok (.iadd, 1) := by decide +kernel
theorem dL_law_347 : decode cL_law 347 = .ok (.iaload, 1) := by decide +kernel
theorem dL_law_348 : decode cL_law 348 = .ok (.invokevirtual 47, 3) := by decide +kernel
theorem dL_law_351 : decode cL_law 351 = .ok (.if_icmp .eq 420, 3) := by decide +kernel
theorem dL_law_354 : decode cL_law 354 = .ok (.iconst 0, 1) := by decide +kernel
theorem dL_law_355 : decode cL_law 355 = .ok (.ireturn, 1) := by decide +kernel
theorem dL_law_356 : decode cL_law 356 = .ok (.aload_n 1, 1) := by decide +kernel
theorem dL_law_357 : decode cL_law 357 = .ok (.invokevirtual 48, 3) := by decide +kernel
theorem dL_law_360 : decode cL_law 360 = .ok (.aload_n 2, 1) := by decide +kernel
theorem dL_law_361 : decode cL_law 361 = .ok (.invokevirtual 51, 3) := by decide +kernel
theorem dL_law_364 : decode cL_law 364 = .ok (.if_icmp .eq 407, 3) := by decide +kernel
theorem dL_law_367 : decode cL_law 367 = .ok (.iconst 0, 1) := by decide +kernel
theorem dL_law_368 : decode cL_law 368 = .ok (.ireturn, 1) := by decide +kernel
theorem dL_law_369 : decode cL_law 369 = .ok (.aload_n 1, 1) := by decide +kernel
theorem dL_law_370 : decode cL_law 370 = .ok (.aload_n 0, 1) := by decide +kernel
theorem dL_law_371 : decode cL_law 371 = .ok (.iload_n 3, 1) := by decide +kernel
theorem dL_law_372 : decode cL_law 372 = .ok (.iconst 1, 1) := by decide +kernel
theorem dL_law_373 : decode cL_law 373 = .ok (.iadd, 1) := by decide +kernel
theorem dL_law_374 : decode cL_law 374 = .ok (.iaload, 1) := by decide +kernel
theorem dL_law_375 : decode cL_law 375 = .ok (.aload_n 0, 1) := by decide +kernel
theorem dL_law_376 : decode cL_law 376 = .ok (.iload_n 3, 1) := by decide +kernel
theorem dL_law_377 : decode cL_law 377 = .ok (.iconst 2, 1) := by decide +kernel
theorem dL_law_378 : decode cL_law 378 = .ok (.iadd, 1) := by decide +kernel
theorem dL_law_379 : decode cL_law 379 = .ok (.iaload, 1) := by decide +kernel
theorem dL_law_380 : decode cL_law 380 = .ok (.invokevirtual 52, 3) := by decide +kernel
theorem dL_law_383 : decode cL_law 383 = .ok (.aload_n 2, 1) := by decide +kernel
theorem dL_law_384 : decode cL_law 384 = .ok (.aload_n 0, 1) := by decide +kernel
theorem dL_law_385 : decode cL_law 385 = .ok (.iload_n 3, 1) := by decide +kernel
theorem dL_law_386 : decode cL_law 386 = .ok (.iconst 1, 1) := by decide +kernel
theorem dL_law_387 : decode cL_law 387 = .ok (.iadd, 1) := by decide +kernel
theorem dL_law_388 : decode cL_law 388 = .ok (.iaload, 1) := by decide +kernel
theorem dL_law_389 : decode cL_law 389 = .ok (.aload_n 0, 1) := by decide +kernel
theorem dL_law_390 : decode cL_law 390 = .ok (.iload_n 3, 1) := by decide +kernel
theorem dL_law_391 : decode cL_law 391 = .ok (.iconst 2, 1) := by decide +kernel
theorem dL_law_392 : decode cL_law 392 = .ok (.iadd, 1) := by decide +kernel
theorem dL_law_393 : decode cL_law 393 = .ok (.iaload, 1) := by decide +kernel
theorem dL_law_394 : decode cL_law 394 = .ok (.invokevirtual 55, 3) := by decide +kernel
theorem dL_law_397 : decode cL_law 397 = .ok (.if_icmp .eq 374, 3) := by decide +kernel
theorem dL_law_400 : decode cL_law 400 = .ok (.iconst 0, 1) := by decide +kernel
theorem dL_law_401 : decode cL_law 401 = .ok (.ireturn, 1) := by decide +kernel
theorem dL_law_402 : decode cL_law 402 = .ok (.aload_n 1, 1) := by decide +kernel
theorem dL_law_403 : decode cL_law 403 = .ok (.aload_n 0, 1) := by decide +kernel
theorem dL_law_404 : decode cL_law 404 = .ok (.iload_n 3, 1) := by decide +kernel
theorem dL_law_405 : decode cL_law 405 = .ok (.iconst 1, 1) := by decide +kernel
theorem dL_law_406 : decode cL_law 406 = .ok (.iadd, 1) := by decide +kernel
theorem dL_law_407 : decode cL_law 407 = .ok (.iaload, 1) := by decide +kernel
theorem dL_law_408 : decode cL_law 408 = .ok (.invokevirtual 56, 3) := by decide +kernel
theorem dL_law_411 : decode cL_law 411 = .ok (.aload_n 2, 1) := by decide +kernel
theorem dL_law_412 : decode cL_law 412 = .ok (.aload_n 0, 1) := by decide +kernel
theorem dL_law_413 : decode cL_law 413 = .ok (.iload_n 3, 1) := by decide +kernel
theorem dL_law_414 : decode cL_law 414 = .ok (.iconst 1, 1) := by decide +kernel
theorem dL_law_415 : decode cL_law 415 = .ok (.iadd, 1) := by decide +kernel
theorem dL_law_416 : decode cL_law 416 = .ok (.iaload, 1) := by decide +kernel
theorem dL_law_417 : decode cL_law 417 = .ok (.invokevirtual 59, 3) := by decide +kernel
theorem dL_law_420 : decode cL_law 420 = .ok (.if_icmp .eq 351, 3) := by decide +kernel
theorem dL_law_423 : decode cL_law 423 = .ok (.iconst 0, 1) := by decide +kernel
theorem dL_law_424 : decode cL_law 424 = .ok (.ireturn, 1) := by decide +kernel
theorem dL_law_425 : decode cL_law 425 = .ok (.aload_n 1, 1) := by decide +kernel
theorem dL_law_426 : decode cL_law 426 = .ok (.invokevirtual 60, 3) := by decide +kernel
theorem dL_law_429 : decode cL_law 429 = .ok (.aload_n 2, 1) := by decide +kernel
theorem dL_law_430 : decode cL_law 430 = .ok (.invokevirtual 63, 3) := by decide +kernel
theorem dL_law_433 : decode cL_law 433 = .ok (.if_icmp .eq 338, 3) := by decide +kernel
theorem dL_law_436 : decode cL_law 436 = .ok (.iconst 0, 1) := by decide +kernel
theorem dL_law_437 : decode cL_law 437 = .ok (.ireturn, 1) := by decide +kernel
theorem dL_law_438 : decode cL_law 438 = .ok (.aload_n 1, 1) := by decide +kernel
theorem dL_law_439 : decode cL_law 439 = .ok (.aload_n 0, 1) := by decide +kernel
theorem dL_law_440 : decode cL_law 440 = .ok (.iload_n 3, 1) := by decide +kernel
theorem dL_law_441 : decode cL_law 441 = .ok (.iconst 1, 1) := by decide +kernel
theorem dL_law_442 : decode cL_law 442 = .ok (.iadd, 1) := by decide +kernel
theorem dL_law_443 : decode cL_law 443 = .ok (.iaload, 1) := by decide +kernel
theorem dL_law_444 : decode cL_law 444 = .ok (.invokevirtual 64, 3) := by decide +kernel
theorem dL_law_447 : decode cL_law 447 = .ok (.aload_n 2, 1) := by decide +kernel
theorem dL_law_448 : decode cL_law 448 = .ok (.aload_n 0, 1) := by decide +kernel
theorem dL_law_449 : decode cL_law 449 = .ok (.iload_n 3, 1) := by decide +kernel
theorem dL_law_450 : decode cL_law 450 = .ok (.iconst 1, 1) := by decide +kernel
theorem dL_law_451 : decode cL_law 451 = .ok (.iadd, 1) := by decide +kernel
theorem dL_law_452 : decode cL_law 452 = .ok (.iaload, 1) := by decide +kernel
theorem dL_law_453 : decode cL_law 453 = .ok (.invokevirtual 67, 3) := by decide +kernel
theorem dL_law_456 : decode cL_law 456 = .ok (.if_icmp .eq 315, 3) := by decide +kernel
theorem dL_law_459 : decode cL_law 459 = .ok (.iconst 0, 1) := by decide +kernel
theorem dL_law_460 : decode cL_law 460 = .ok (.ireturn, 1) := by decide +kernel
theorem dL_law_461 : decode cL_law 461 = .ok (.aload_n 1, 1) := by decide +kernel
theorem dL_law_462 : decode cL_law 462 = .ok (.aload_n 0, 1) := by decide +kernel
theorem dL_law_463 : decode cL_law 463 = .ok (.iload_n 3, 1) := by decide +kernel
theorem dL_law_464 : decode cL_law 464 = .ok (.iconst 1, 1) := by decide +kernel
theorem dL_law_465 : decode cL_law 465 = .ok (.iadd, 1) := by decide +kernel
theorem dL_law_466 : decode cL_law 466 = .ok (.iaload, 1) := by decide +kernel
theorem dL_law_467 : decode cL_law 467 = .ok (.aload_n 0, 1) := by decide +kernel
theorem dL_law_468 : decode cL_law 468 = .ok (.iload_n 3, 1) := by decide +kernel
theorem dL_law_469 : decode cL_law 469 = .ok (.iconst 2, 1) := by decide +kernel
theorem dL_law_470 : decode cL_law 470 = .ok (.iadd, 1) := by decide +kernel
theorem dL_law_471 : decode cL_law 471 = .ok (.iaload, 1) := by decide +kernel
theorem dL_law_472 : decode cL_law 472 = .ok (.invokevirtual 68, 3) := by decide +kernel
theorem dL_law_475 : decode cL_law 475 = .ok (.aload_n 2, 1) := by decide +kernel
theorem dL_law_476 : decode cL_law 476 = .ok (.aload_n 0, 1) := by decide +kernel
theorem dL_law_477 : decode cL_law 477 = .ok (.iload_n 3, 1) := by decide +kernel
theorem dL_law_478 : decode cL_law 478 = .ok (.iconst 1, 1) := by decide +kernel
theorem dL_law_479 : decode cL_law 479 = .ok (.iadd, 1) := by decide +kernel
theorem dL_law_480 : decode cL_law 480 = .ok (.iaload, 1) := by decide +kernel
theorem dL_law_481 : decode cL_law 481 = .ok (.aload_n 0, 1) := by decide +kernel
theorem dL_law_482 : decode cL_law 482 = .ok (.iload_n 3, 1) := by decide +kernel
theorem dL_law_483 : decode cL_law 483 = .ok (.iconst 2, 1) := by decide +kernel
theorem dL_law_484 : decode cL_law 484 = .ok (.iadd, 1) := by decide +kernel
theorem dL_law_485 : decode cL_law 485 = .ok (.iaload, 1) := by decide +kernel
theorem dL_law_486 : decode cL_law 486 = .ok (.invokevirtual 71, 3) := by decide +kernel
theorem dL_law_489 : decode cL_law 489 = .ok (.if_icmp .eq 282, 3) := by decide +kernel
theorem dL_law_492 : decode cL_law 492 = .ok (.iconst 0, 1) := by decide +kernel
theorem dL_law_493 : decode cL_law 493 = .ok (.ireturn, 1) := by decide +kernel
theorem dL_law_494 : decode cL_law 494 = .ok (.aload_n 1, 1) := by decide +kernel
theorem dL_law_495 : decode cL_law 495 = .ok (.aload_n 0, 1) := by decide +kernel
theorem dL_law_496 : decode cL_law 496 = .ok (.iload_n 3, 1) := by decide +kernel
theorem dL_law_497 : decode cL_law 497 = .ok (.iconst 1, 1) := by decide +kernel
theorem dL_law_498 : decode cL_law 498 = .ok (.iadd, 1) := by decide +kernel
theorem dL_law_499 : decode cL_law 499 = .ok (.iaload, 1) := by decide +kernel
theorem dL_law_500 : decode cL_law 500 = .ok (.invokevirtual 72, 3) := by decide +kernel
theorem dL_law_503 : decode cL_law 503 = .ok (.aload_n 2, 1) := by decide +kernel
theorem dL_law_504 : decode cL_law 504 = .ok (.aload_n 0, 1) := by decide +kernel
theorem dL_law_505 : decode cL_law 505 = .ok (.iload_n 3, 1) := by decide +kernel
theorem dL_law_506 : decode cL_law 506 = .ok (.iconst 1, 1) := by decide +kernel
theorem dL_law_507 : decode cL_law 507 = .ok (.iadd, 1) := by decide +kernel
theorem dL_law_508 : decode cL_law 508 = .ok (.iaload, 1) := by decide +kernel
theorem dL_law_509 : decode cL_law 509 = .ok (.invokevirtual 75, 3) := by decide +kernel
theorem dL_law_512 : decode cL_law 512 = .ok (.if_icmp .eq 259, 3) := by decide +kernel
theorem dL_law_515 : decode cL_law 515 = .ok (.iconst 0, 1) := by decide +kernel
theorem dL_law_516 : decode cL_law 516 = .ok (.ireturn, 1) := by decide +kernel
theorem dL_law_517 : decode cL_law 517 = .ok (.aload_n 1, 1) := by decide +kernel
theorem dL_law_518 : decode cL_law 518 = .ok (.aload_n 0, 1) := by decide +kernel
theorem dL_law_519 : decode cL_law 519 = .ok (.iload_n 3, 1) := by decide +kernel
theorem dL_law_520 : decode cL_law 520 = .ok (.iconst 1, 1) := by decide +kernel
theorem dL_law_521 : decode cL_law 521 = .ok (.iadd, 1) := by decide +kernel
theorem dL_law_522 : decode cL_law 522 = .ok (.iaload, 1) := by decide +kernel
theorem dL_law_523 : decode cL_law 523 = .ok (.invokevirtual 76, 3) := by decide +kernel
theorem dL_law_526 : decode cL_law 526 = .ok (.aload_n 2, 1) := by decide +kernel
theorem dL_law_527 : decode cL_law 527 = .ok (.aload_n 0, 1) := by decide +kernel
theorem dL_law_528 : decode cL_law 528 = .ok (.iload_n 3, 1) := by decide +kernel
theorem dL_law_529 : decode cL_law 529 = .ok (.iconst 1, 1) := by decide +kernel
theorem dL_law_530 : decode cL_law 530 = .ok (.iadd, 1) := by decide +kernel
theorem dL_law_531 : decode cL_law 531 = .ok (.iaload, 1) := by decide +kernel
theorem dL_law_532 : decode cL_law 532 = .ok (.invokevirtual 79, 3) := by decide +kernel
theorem dL_law_535 : decode cL_law 535 = .ok (.if_icmp .eq 236, 3) := by decide +kernel
theorem dL_law_538 : decode cL_law 538 = .ok (.iconst 0, 1) := by decide +kernel
theorem dL_law_539 : decode cL_law 539 = .ok (.ireturn, 1) := by decide +kernel
theorem dL_law_540 : decode cL_law 540 = .ok (.aload_n 1, 1) := by decide +kernel
theorem dL_law_541 : decode cL_law 541 = .ok (.aload_n 0, 1) := by decide +kernel
theorem dL_law_542 : decode cL_law 542 = .ok (.iload_n 3, 1) := by decide +kernel
theorem dL_law_543 : decode cL_law 543 = .ok (.iconst 1, 1) := by decide +kernel
theorem dL_law_544 : decode cL_law 544 = .ok (.iadd, 1) := by decide +kernel
theorem dL_law_545 : decode cL_law 545 = .ok (.iaload, 1) := by decide +kernel
theorem dL_law_546 : decode cL_law 546 = .ok (.aload_n 0, 1) := by decide +kernel
theorem dL_law_547 : decode cL_law 547 = .ok (.iload_n 3, 1) := by decide +kernel
theorem dL_law_548 : decode cL_law 548 = .ok (.iconst 2, 1) := by decide +kernel
theorem dL_law_549 : decode cL_law 549 = .ok (.iadd, 1) := by decide +kernel
theorem dL_law_550 : decode cL_law 550 = .ok (.iaload, 1) := by decide +kernel
theorem dL_law_551 : decode cL_law 551 = .ok (.invokevirtual 80, 3) := by decide +kernel
theorem dL_law_554 : decode cL_law 554 = .ok (.aload_n 2, 1) := by decide +kernel
theorem dL_law_555 : decode cL_law 555 = .ok (.aload_n 0, 1) := by decide +kernel
theorem dL_law_556 : decode cL_law 556 = .ok (.iload_n 3, 1) := by decide +kernel
theorem dL_law_557 : decode cL_law 557 = .ok (.iconst 1, 1) := by decide +kernel
theorem dL_law_558 : decode cL_law 558 = .ok (.iadd, 1) := by decide +kernel
theorem dL_law_559 : decode cL_law 559 = .ok (.iaload, 1) := by decide +kernel
theorem dL_law_560 : decode cL_law 560 = .ok (.aload_n 0, 1) := by decide +kernel
theorem dL_law_561 : decode cL_law 561 = .ok (.iload_n 3, 1) := by decide +kernel
theorem dL_law_562 : decode cL_law 562 = .ok (.iconst 2, 1) := by decide +kernel
theorem dL_law_563 : decode cL_law 563 = .ok (.iadd, 1) := by decide +kernel
theorem dL_law_564 : decode cL_law 564 = .ok (.iaload, 1) := by decide +kernel
theorem dL_law_565 : decode cL_law 565 = .ok (.invokevirtual 83, 3) := by decide +kernel
theorem dL_law_568 : decode cL_law 568 = .ok (.if_icmp .eq 203, 3) := by decide +kernel
theorem dL_law_571 : decode cL_law 571 = .ok (.iconst 0, 1) := by decide +kernel
theorem dL_law_572 : decode cL_law 572 = .ok (.ireturn, 1) := by decide +kernel
theorem dL_law_573 : decode cL_law 573 = .ok (.aload_n 1, 1) := by decide +kernel
theorem dL_law_574 : decode cL_law 574 = .ok (.aload_n 0, 1) := by decide +kernel
theorem dL_law_575 : decode cL_law 575 = .ok (.iload_n 3, 1) := by decide +kernel
theorem dL_law_576 : decode cL_law 576 = .ok (.iconst 1, 1) := by decide +kernel
theorem dL_law_577 : decode cL_law 577 = .ok (.iadd, 1) := by decide +kernel
theorem dL_law_578 : decode cL_law 578 = .ok (.iaload, 1) := by decide +kernel
theorem dL_law_579 : decode cL_law 579 = .ok (.aload_n 0, 1) := by decide +kernel
theorem dL_law_580 : decode cL_law 580 = .ok (.iload_n 3, 1) := by decide +kernel
theorem dL_law_581 : decode cL_law 581 = .ok (.iconst 2, 1) := by decide +kernel
theorem dL_law_582 : decode cL_law 582 = .ok (.iadd, 1) := by decide +kernel
theorem dL_law_583 : decode cL_law 583 = .ok (.iaload, 1) := by decide +kernel
theorem dL_law_584 : decode cL_law 584 = .ok (.invokevirtual 84, 3) := by decide +kernel
theorem dL_law_587 : decode cL_law 587 = .ok (.aload_n 2, 1) := by decide +kernel
theorem dL_law_588 : decode cL_law 588 = .ok (.aload_n 0, 1) := by decide +kernel
theorem dL_law_589 : decode cL_law 589 = .ok (.iload_n 3, 1) := by decide +kernel
theorem dL_law_590 : decode cL_law 590 = .ok (.iconst 1, 1) := by decide +kernel
theorem dL_law_591 : decode cL_law 591 = .ok (.iadd, 1) := by decide +kernel
theorem dL_law_592 : decode cL_law 592 = .ok (.iaload, 1) := by decide +kernel
theorem dL_law_593 : decode cL_law 593 = .ok (.aload_n 0, 1) := by decide +kernel
theorem dL_law_594 : decode cL_law 594 = .ok (.iload_n 3, 1) := by decide +kernel
theorem dL_law_595 : decode cL_law 595 = .ok (.iconst 2, 1) := by decide +kernel
theorem dL_law_596 : decode cL_law 596 = .ok (.iadd, 1) := by decide +kernel
theorem dL_law_597 : decode cL_law 597 = .ok (.iaload, 1) := by decide +kernel
theorem dL_law_598 : decode cL_law 598 = .ok (.invokevirtual 87, 3) := by decide +kernel
theorem dL_law_601 : decode cL_law 601 = .ok (.if_icmp .eq 170, 3) := by decide +kernel
theorem dL_law_604 : decode cL_law 604 = .ok (.iconst 0, 1) := by decide +kernel
theorem dL_law_605 : decode cL_law 605 = .ok (.ireturn, 1) := by decide +kernel
theorem dL_law_606 : decode cL_law 606 = .ok (.aload_n 1, 1) := by decide +kernel
theorem dL_law_607 : decode cL_law 607 = .ok (.invokevirtual 88, 3) := by decide +kernel
theorem dL_law_610 : decode cL_law 610 = .ok (.aload_n 2, 1) := by decide +kernel
theorem dL_law_611 : decode cL_law 611 = .ok (.invokevirtual 91, 3) := by decide +kernel
theorem dL_law_614 : decode cL_law 614 = .ok (.if_icmp .eq 157, 3) := by decide +kernel
theorem dL_law_617 : decode cL_law 617 = .ok (.iconst 0, 1) := by decide +kernel
theorem dL_law_618 : decode cL_law 618 = .ok (.ireturn, 1) := by decide +kernel
theorem dL_law_619 : decode cL_law 619 = .ok (.aload_n 1, 1) := by decide +kernel
theorem dL_law_620 : decode cL_law 620 = .ok (.aload_n 0, 1) := by decide +kernel
theorem dL_law_621 : decode cL_law 621 = .ok (.iload_n 3, 1) := by decide +kernel
theorem dL_law_622 : decode cL_law 622 = .ok (.iconst 1, 1) := by decide +kernel
theorem dL_law_623 : decode cL_law 623 = .ok (.iadd, 1) := by decide +kernel
theorem dL_law_624 : decode cL_law 624 = .ok (.iaload, 1) := by decide +kernel
theorem dL_law_625 : decode cL_law 625 = .ok (.invokevirtual 92, 3) := by decide +kernel
theorem dL_law_628 : decode cL_law 628 = .ok (.aload_n 2, 1) := by decide +kernel
theorem dL_law_629 : decode cL_law 629 = .ok (.aload_n 0, 1) := by decide +kernel
theorem dL_law_630 : decode cL_law 630 = .ok (.iload_n 3, 1) := by decide +kernel
theorem dL_law_631 : decode cL_law 631 = .ok (.iconst 1, 1) := by decide +kernel
theorem dL_law_632 : decode cL_law 632 = .ok (.iadd, 1) := by decide +kernel
theorem dL_law_633 : decode cL_law 633 = .ok (.iaload, 1) := by decide +kernel
theorem dL_law_634 : decode cL_law 634 = .ok (.invokevirtual 95, 3) := by decide +kernel
theorem dL_law_637 : decode cL_law 637 = .ok (.if_icmp .eq 134, 3) := by decide +kernel
theorem dL_law_640 : decode cL_law 640 = .ok (.iconst 0, 1) := by decide +kernel
theorem dL_law_641 : decode cL_law 641 = .ok (.ireturn, 1) := by decide +kernel
theorem dL_law_642 : decode cL_law 642 = .ok (.aload_n 1, 1) := by decide +kernel
theorem dL_law_643 : decode cL_law 643 = .ok (.invokevirtual 96, 3) := by decide +kernel
theorem dL_law_646 : decode cL_law 646 = .ok (.aload_n 2, 1) := by decide +kernel
theorem dL_law_647 : decode cL_law 647 = .ok (.invokevirtual 99, 3) := by decide +kernel
theorem dL_law_650 : decode cL_law 650 = .ok (.if_icmp .eq 121, 3) := by decide +kernel
theorem dL_law_653 : decode cL_law 653 = .ok (.iconst 0, 1) := by decide +kernel
theorem dL_law_654 : decode cL_law 654 = .ok (.ireturn, 1) := by decide +kernel
theorem dL_law_655 : decode cL_law 655 = .ok (.aload_n 1, 1) := by decide +kernel
theorem dL_law_656 : decode cL_law 656 = .ok (.aload_n 0, 1) := by decide +kernel
theorem dL_law_657 : decode cL_law 657 = .ok (.iload_n 3, 1) := by decide +kernel
theorem dL_law_658 : decode cL_law 658 = .ok (.iconst 1, 1) := by decide +kernel
theorem dL_law_659 : decode cL_law 659 = .ok (.iadd, 1) := by decide +kernel
theorem dL_law_660 : decode cL_law 660 = .ok (.iaload, 1) := by decide +kernel
theorem dL_law_661 : decode cL_law 661 = .ok (.aload_n 0, 1) := by decide +kernel
theorem dL_law_662 : decode cL_law 662 = .ok (.iload_n 3, 1) := by decide +kernel
theorem dL_law_663 : decode cL_law 663 = .ok (.iconst 2, 1) := by decide +kernel
theorem dL_law_664 : decode cL_law 664 = .ok (.iadd, 1) := by decide +kernel
theorem dL_law_665 : decode cL_law 665 = .ok (.iaload, 1) := by decide +kernel
theorem dL_law_666 : decode cL_law 666 = .ok (.invokevirtual 100, 3) := by decide +kernel
theorem dL_law_669 : decode cL_law 669 = .ok (.aload_n 2, 1) := by decide +kernel
theorem dL_law_670 : decode cL_law 670 = .ok (.aload_n 0, 1) := by decide +kernel
theorem dL_law_671 : decode cL_law 671 = .ok (.iload_n 3, 1) := by decide +kernel
theorem dL_law_672 : decode cL_law 672 = .ok (.iconst 1, 1) := by decide +kernel
theorem dL_law_673 : decode cL_law 673 = .ok (.iadd, 1) := by decide +kernel
theorem dL_law_674 : decode cL_law 674 = .ok (.iaload, 1) := by decide +kernel
theorem dL_law_675 : decode cL_law 675 = .ok (.aload_n 0, 1) := by decide +kernel
theorem dL_law_676 : decode cL_law 676 = .ok (.iload_n 3, 1) := by decide +kernel
theorem dL_law_677 : decode cL_law 677 = .ok (.iconst 2, 1) := by decide +kernel
theorem dL_law_678 : decode cL_law 678 = .ok (.iadd, 1) := by decide +kernel
theorem dL_law_679 : decode cL_law 679 = .ok (.iaload, 1) := by decide +kernel
theorem dL_law_680 : decode cL_law 680 = .ok (.invokevirtual 103, 3) := by decide +kernel
theorem dL_law_683 : decode cL_law 683 = .ok (.if_icmp .eq 88, 3) := by decide +kernel
theorem dL_law_686 : decode cL_law 686 = .ok (.iconst 0, 1) := by decide +kernel
theorem dL_law_687 : decode cL_law 687 = .ok (.ireturn, 1) := by decide +kernel
theorem dL_law_688 : decode cL_law 688 = .ok (.aload_n 1, 1) := by decide +kernel
theorem dL_law_689 : decode cL_law 689 = .ok (.aload_n 0, 1) := by decide +kernel
theorem dL_law_690 : decode cL_law 690 = .ok (.iload_n 3, 1) := by decide +kernel
theorem dL_law_691 : decode cL_law 691 = .ok (.iconst 1, 1) := by decide +kernel
theorem dL_law_692 : decode cL_law 692 = .ok (.iadd, 1) := by decide +kernel
theorem dL_law_693 : decode cL_law 693 = .ok (.iaload, 1) := by decide +kernel
theorem dL_law_694 : decode cL_law 694 = .ok (.invokevirtual 104, 3) := by decide +kernel
theorem dL_law_697 : decode cL_law 697 = .ok (.aload_n 2, 1) := by decide +kernel
theorem dL_law_698 : decode cL_law 698 = .ok (.aload_n 0, 1) := by decide +kernel
theorem dL_law_699 : decode cL_law 699 = .ok (.iload_n 3, 1) := by decide +kernel
theorem dL_law_700 : decode cL_law 700 = .ok (.iconst 1, 1) := by decide +kernel
theorem dL_law_701 : decode cL_law 701 = .ok (.iadd, 1) := by decide +kernel
theorem dL_law_702 : decode cL_law 702 = .ok (.iaload, 1) := by decide +kernel
theorem dL_law_703 : decode cL_law 703 = .ok (.invokevirtual 107, 3) := by decide +kernel
theorem dL_law_706 : decode cL_law 706 = .ok (.if_icmp .eq 65, 3) := by decide +kernel
theorem dL_law_709 : decode cL_law 709 = .ok (.iconst 0, 1) := by decide +kernel
theorem dL_law_710 : decode cL_law 710 = .ok (.ireturn, 1) := by decide +kernel
theorem dL_law_711 : decode cL_law 711 = .ok (.aload_n 1, 1) := by decide +kernel
theorem dL_law_712 : decode cL_law 712 = .ok (.aload_n 0, 1) := by decide +kernel
theorem dL_law_713 : decode cL_law 713 = .ok (.iload_n 3, 1) := by decide +kernel
theorem dL_law_714 : decode cL_law 714 = .ok (.iconst 1, 1) := by decide +kernel
theorem dL_law_715 : decode cL_law 715 = .ok (.iadd, 1) := by decide +kernel
theorem dL_law_716 : decode cL_law 716 = .ok (.iaload, 1) := by decide +kernel
theorem dL_law_717 : decode cL_law 717 = .ok (.invokevirtual 108, 3) := by decide +kernel
theorem dL_law_720 : decode cL_law 720 = .ok (.aload_n 2, 1) := by decide +kernel
theorem dL_law_721 : decode cL_law 721 = .ok (.aload_n 0, 1) := by decide +kernel
theorem dL_law_722 : decode cL_law 722 = .ok (.iload_n 3, 1) := by decide +kernel
theorem dL_law_723 : decode cL_law 723 = .ok (.iconst 1, 1) := by decide +kernel
theorem dL_law_724 : decode cL_law 724 = .ok (.iadd, 1) := by decide +kernel
theorem dL_law_725 : decode cL_law 725 = .ok (.iaload, 1) := by decide +kernel
theorem dL_law_726 : decode cL_law 726 = .ok (.invokevirtual 111, 3) := by decide +kernel
theorem dL_law_729 : decode cL_law 729 = .ok (.if_icmp .eq 42, 3) := by decide +kernel
theorem dL_law_732 : decode cL_law 732 = .ok (.iconst 0, 1) := by decide +kernel
theorem dL_law_733 : decode cL_law 733 = .ok (.ireturn, 1) := by decide +kernel
theorem dL_law_734 : decode cL_law 734 = .ok (.aload_n 1, 1) := by decide +kernel
theorem dL_law_735 : decode cL_law 735 = .ok (.aload_n 0, 1) := by decide +kernel
theorem dL_law_736 : decode cL_law 736 = .ok (.iload_n 3, 1) := by decide +kernel
theorem dL_law_737 : decode cL_law 737 = .ok (.iconst 1, 1) := by decide +kernel
theorem dL_law_738 : decode cL_law 738 = .ok (.iadd, 1) := by decide +kernel
theorem dL_law_739 : decode cL_law 739 = .ok (.iaload, 1) := by decide +kernel
theorem dL_law_740 : decode cL_law 740 = .ok (.invokevirtual 112, 3) := by decide +kernel
theorem dL_law_743 : decode cL_law 743 = .ok (.aload_n 2, 1) := by decide +kernel
theorem dL_law_744 : decode cL_law 744 = .ok (.aload_n 0, 1) := by decide +kernel
theorem dL_law_745 : decode cL_law 745 = .ok (.iload_n 3, 1) := by decide +kernel
theorem dL_law_746 : decode cL_law 746 = .ok (.iconst 1, 1) := by decide +kernel
theorem dL_law_747 : decode cL_law 747 = .ok (.iadd, 1) := by decide +kernel
theorem dL_law_748 : decode cL_law 748 = .ok (.iaload, 1) := by decide +kernel
theorem dL_law_749 : decode cL_law 749 = .ok (.invokevirtual 115, 3) := by decide +kernel
theorem dL_law_752 : decode cL_law 752 = .ok (.if_icmp .eq 19, 3) := by decide +kernel
theorem dL_law_755 : decode cL_law 755 = .ok (.iconst 0, 1) := by decide +kernel
theorem dL_law_756 : decode cL_law 756 = .ok (.ireturn, 1) := by decide +kernel
theorem dL_law_757 : decode cL_law 757 = .ok (.aload_n 1, 1) := by decide +kernel
theorem dL_law_758 : decode cL_law 758 = .ok (.invokevirtual 116, 3) := by decide +kernel
theorem dL_law_761 : decode cL_law 761 = .ok (.aload_n 2, 1) := by decide +kernel
theorem dL_law_762 : decode cL_law 762 = .ok (.invokevirtual 120, 3) := by decide +kernel
theorem dL_law_765 : decode cL_law 765 = .ok (.lcmp, 1) := by decide +kernel
theorem dL_law_766 : decode cL_law 766 = .ok (.ifCond .eq 5, 3) := by decide +kernel
theorem dL_law_769 : decode cL_law 769 = .ok (.iconst 0, 1) := by decide +kernel
theorem dL_law_770 : decode cL_law 770 = .ok (.ireturn, 1) := by decide +kernel
theorem dL_law_771 : decode cL_law 771 = .ok (.iinc 3 3, 3) := by decide +kernel
theorem dL_law_774 : decode cL_law 774 = .ok (.goto (-756), 3) := by decide +kernel
theorem dL_law_777 : decode cL_law 777 = .ok (.iconst 1, 1) := by decide +kernel
theorem dL_law_778 : decode cL_law 778 = .ok (.ireturn, 1) := by decide +kernel
abbrev vwCl : List vw_C := [(RX0, TX0, 4), (RX1, TX1, 6), (RX2, TX2, 3), (RX3, TX3, 3), (RX4, TX4, 8), (RX5, TX5, 8), (RX6, TX6, 10), (RX7, TX7, 25)]
end

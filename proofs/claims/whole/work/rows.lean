section
-- ===== PART A: goes FIRST, ahead of the names: the tables' words, and 'selects' of the private methods out of them =====
/-- a private method of a class that the tables say can be made, by its rows of tables_1 -/
def lw_okq (q : MethodName × Nat) : Prop := (q.1.cls ≠ "java/lang/invoke/MethodHandle" ∧ q.1.cls ≠ "java/lang/invoke/VarHandle") ∧ Cond.instantiable q.1.cls q.2 ∈ tables_1 ∧ Cond.privateMethod q.1 ∈ tables_1 ∧ Cond.instanceMethod q.1 ∈ tables_1
theorem lw_p0 : lw_okq (⟨"EnemyByLot$Town", "slot", "(I)I"⟩, 5) := ⟨⟨by decide +kernel, by decide +kernel⟩, List.mem_of_getElem? (i := 34) (by decide +kernel), List.mem_of_getElem? (i := 147) (by decide +kernel), List.mem_of_getElem? (i := 148) (by decide +kernel)⟩
theorem lw_p1 : lw_okq (⟨"EnemyByLot", "find", "(I)I"⟩, 14) := ⟨⟨by decide +kernel, by decide +kernel⟩, List.mem_of_getElem? (i := 13) (by decide +kernel), List.mem_of_getElem? (i := 205) (by decide +kernel), List.mem_of_getElem? (i := 206) (by decide +kernel)⟩
theorem lw_p2 : lw_okq (⟨"EnemyByLot", "refusePlace", "(LEnemyByLot$Line;I)I"⟩, 14) := ⟨⟨by decide +kernel, by decide +kernel⟩, List.mem_of_getElem? (i := 13) (by decide +kernel), List.mem_of_getElem? (i := 228) (by decide +kernel), List.mem_of_getElem? (i := 229) (by decide +kernel)⟩
theorem lw_p3 : lw_okq (⟨"EnemyByLot$Reader", "readItem", "(LEnemyByLot$Line;ILEnemyByLot$Folk;)I"⟩, 1) := ⟨⟨by decide +kernel, by decide +kernel⟩, List.mem_of_getElem? (i := 23) (by decide +kernel), List.mem_of_getElem? (i := 299) (by decide +kernel), List.mem_of_getElem? (i := 300) (by decide +kernel)⟩
theorem lw_p4 : lw_okq (⟨"EnemyByLot$Reader", "readLove", "(LEnemyByLot$Line;ILEnemyByLot$Folk;)I"⟩, 1) := ⟨⟨by decide +kernel, by decide +kernel⟩, List.mem_of_getElem? (i := 23) (by decide +kernel), List.mem_of_getElem? (i := 304) (by decide +kernel), List.mem_of_getElem? (i := 305) (by decide +kernel)⟩
theorem lw_p5 : lw_okq (⟨"EnemyByLot$Reader", "readPerson", "(LEnemyByLot$Line;ILEnemyByLot$Folk;)I"⟩, 1) := ⟨⟨by decide +kernel, by decide +kernel⟩, List.mem_of_getElem? (i := 23) (by decide +kernel), List.mem_of_getElem? (i := 323) (by decide +kernel), List.mem_of_getElem? (i := 324) (by decide +kernel)⟩
theorem lw_p6 : lw_okq (⟨"EnemyByLot$Reader", "faultOfFoes", "(LEnemyByLot$Folk;)I"⟩, 1) := ⟨⟨by decide +kernel, by decide +kernel⟩, List.mem_of_getElem? (i := 23) (by decide +kernel), List.mem_of_getElem? (i := 339) (by decide +kernel), List.mem_of_getElem? (i := 340) (by decide +kernel)⟩
theorem lw_p7 : lw_okq (⟨"EnemyByLot", "trait", "(II)I"⟩, 14) := ⟨⟨by decide +kernel, by decide +kernel⟩, List.mem_of_getElem? (i := 13) (by decide +kernel), List.mem_of_getElem? (i := 354) (by decide +kernel), List.mem_of_getElem? (i := 355) (by decide +kernel)⟩
theorem lw_p8 : lw_okq (⟨"EnemyByLot", "hasReached", "(I)Z"⟩, 14) := ⟨⟨by decide +kernel, by decide +kernel⟩, List.mem_of_getElem? (i := 13) (by decide +kernel), List.mem_of_getElem? (i := 387) (by decide +kernel), List.mem_of_getElem? (i := 388) (by decide +kernel)⟩
theorem lw_p9 : lw_okq (⟨"EnemyByLot", "calmedBy", "(I)I"⟩, 14) := ⟨⟨by decide +kernel, by decide +kernel⟩, List.mem_of_getElem? (i := 13) (by decide +kernel), List.mem_of_getElem? (i := 408) (by decide +kernel), List.mem_of_getElem? (i := 409) (by decide +kernel)⟩
theorem lw_p10 : lw_okq (⟨"EnemyByLot", "weeksForNine", "(I)I"⟩, 14) := ⟨⟨by decide +kernel, by decide +kernel⟩, List.mem_of_getElem? (i := 13) (by decide +kernel), List.mem_of_getElem? (i := 426) (by decide +kernel), List.mem_of_getElem? (i := 427) (by decide +kernel)⟩
theorem lw_p11 : lw_okq (⟨"EnemyByLot", "owesDuty", "(I)Z"⟩, 14) := ⟨⟨by decide +kernel, by decide +kernel⟩, List.mem_of_getElem? (i := 13) (by decide +kernel), List.mem_of_getElem? (i := 430) (by decide +kernel), List.mem_of_getElem? (i := 431) (by decide +kernel)⟩
theorem lw_p12 : lw_okq (⟨"EnemyByLot", "isPair", "(II)Z"⟩, 14) := ⟨⟨by decide +kernel, by decide +kernel⟩, List.mem_of_getElem? (i := 13) (by decide +kernel), List.mem_of_getElem? (i := 438) (by decide +kernel), List.mem_of_getElem? (i := 439) (by decide +kernel)⟩
theorem lw_p13 : lw_okq (⟨"EnemyByLot", "refuseFolkRow", "(LEnemyByLot$Line;)I"⟩, 14) := ⟨⟨by decide +kernel, by decide +kernel⟩, List.mem_of_getElem? (i := 13) (by decide +kernel), List.mem_of_getElem? (i := 446) (by decide +kernel), List.mem_of_getElem? (i := 447) (by decide +kernel)⟩
theorem lw_p14 : lw_okq (⟨"EnemyByLot", "refuseRow", "(LEnemyByLot$Line;)I"⟩, 14) := ⟨⟨by decide +kernel, by decide +kernel⟩, List.mem_of_getElem? (i := 13) (by decide +kernel), List.mem_of_getElem? (i := 450) (by decide +kernel), List.mem_of_getElem? (i := 451) (by decide +kernel)⟩
theorem lw_p15 : lw_okq (⟨"EnemyByLot", "isAct", "(II)Z"⟩, 14) := ⟨⟨by decide +kernel, by decide +kernel⟩, List.mem_of_getElem? (i := 13) (by decide +kernel), List.mem_of_getElem? (i := 454) (by decide +kernel), List.mem_of_getElem? (i := 455) (by decide +kernel)⟩
def lw_privs_1 : List (MethodName × Nat) := [(⟨"EnemyByLot$Town", "slot", "(I)I"⟩, 5), (⟨"EnemyByLot", "find", "(I)I"⟩, 14), (⟨"EnemyByLot", "refusePlace", "(LEnemyByLot$Line;I)I"⟩, 14), (⟨"EnemyByLot$Reader", "readItem", "(LEnemyByLot$Line;ILEnemyByLot$Folk;)I"⟩, 1), (⟨"EnemyByLot$Reader", "readLove", "(LEnemyByLot$Line;ILEnemyByLot$Folk;)I"⟩, 1), (⟨"EnemyByLot$Reader", "readPerson", "(LEnemyByLot$Line;ILEnemyByLot$Folk;)I"⟩, 1), (⟨"EnemyByLot$Reader", "faultOfFoes", "(LEnemyByLot$Folk;)I"⟩, 1), (⟨"EnemyByLot", "trait", "(II)I"⟩, 14), (⟨"EnemyByLot", "hasReached", "(I)Z"⟩, 14), (⟨"EnemyByLot", "calmedBy", "(I)I"⟩, 14), (⟨"EnemyByLot", "weeksForNine", "(I)I"⟩, 14), (⟨"EnemyByLot", "owesDuty", "(I)Z"⟩, 14), (⟨"EnemyByLot", "isPair", "(II)Z"⟩, 14), (⟨"EnemyByLot", "refuseFolkRow", "(LEnemyByLot$Line;)I"⟩, 14), (⟨"EnemyByLot", "refuseRow", "(LEnemyByLot$Line;)I"⟩, 14), (⟨"EnemyByLot", "isAct", "(II)Z"⟩, 14)]
theorem lw_r1 : ∀ q ∈ lw_privs_1, lw_okq q := List.forall_mem_cons.mpr ⟨lw_p0, List.forall_mem_cons.mpr ⟨lw_p1, List.forall_mem_cons.mpr ⟨lw_p2, List.forall_mem_cons.mpr ⟨lw_p3, List.forall_mem_cons.mpr ⟨lw_p4, List.forall_mem_cons.mpr ⟨lw_p5, List.forall_mem_cons.mpr ⟨lw_p6, List.forall_mem_cons.mpr ⟨lw_p7, List.forall_mem_cons.mpr ⟨lw_p8, List.forall_mem_cons.mpr ⟨lw_p9, List.forall_mem_cons.mpr ⟨lw_p10, List.forall_mem_cons.mpr ⟨lw_p11, List.forall_mem_cons.mpr ⟨lw_p12, List.forall_mem_cons.mpr ⟨lw_p13, List.forall_mem_cons.mpr ⟨lw_p14, List.forall_mem_cons.mpr ⟨lw_p15, fun _ h => absurd h List.not_mem_nil⟩⟩⟩⟩⟩⟩⟩⟩⟩⟩⟩⟩⟩⟩⟩⟩
theorem lw_p16 : lw_okq (⟨"EnemyByLot", "passWeek", "()I"⟩, 14) := ⟨⟨by decide +kernel, by decide +kernel⟩, List.mem_of_getElem? (i := 13) (by decide +kernel), List.mem_of_getElem? (i := 458) (by decide +kernel), List.mem_of_getElem? (i := 459) (by decide +kernel)⟩
theorem lw_p17 : lw_okq (⟨"EnemyByLot", "reachedSet", "()I"⟩, 14) := ⟨⟨by decide +kernel, by decide +kernel⟩, List.mem_of_getElem? (i := 13) (by decide +kernel), List.mem_of_getElem? (i := 467) (by decide +kernel), List.mem_of_getElem? (i := 468) (by decide +kernel)⟩
theorem lw_p18 : lw_okq (⟨"EnemyByLot", "fineIdle", "()V"⟩, 14) := ⟨⟨by decide +kernel, by decide +kernel⟩, List.mem_of_getElem? (i := 13) (by decide +kernel), List.mem_of_getElem? (i := 471) (by decide +kernel), List.mem_of_getElem? (i := 472) (by decide +kernel)⟩
theorem lw_p19 : lw_okq (⟨"EnemyByLot", "shelfAt", "(I)LEnemyByLot$Town;"⟩, 14) := ⟨⟨by decide +kernel, by decide +kernel⟩, List.mem_of_getElem? (i := 13) (by decide +kernel), List.mem_of_getElem? (i := 498) (by decide +kernel), List.mem_of_getElem? (i := 499) (by decide +kernel)⟩
theorem lw_p20 : lw_okq (⟨"EnemyByLot", "ringOf", "(I)I"⟩, 14) := ⟨⟨by decide +kernel, by decide +kernel⟩, List.mem_of_getElem? (i := 13) (by decide +kernel), List.mem_of_getElem? (i := 514) (by decide +kernel), List.mem_of_getElem? (i := 515) (by decide +kernel)⟩
theorem lw_p21 : lw_okq (⟨"EnemyByLot", "lossOf", "(I)I"⟩, 14) := ⟨⟨by decide +kernel, by decide +kernel⟩, List.mem_of_getElem? (i := 13) (by decide +kernel), List.mem_of_getElem? (i := 526) (by decide +kernel), List.mem_of_getElem? (i := 527) (by decide +kernel)⟩
theorem lw_p22 : lw_okq (⟨"EnemyByLot", "fewestWeeks", "(II)I"⟩, 14) := ⟨⟨by decide +kernel, by decide +kernel⟩, List.mem_of_getElem? (i := 13) (by decide +kernel), List.mem_of_getElem? (i := 534) (by decide +kernel), List.mem_of_getElem? (i := 535) (by decide +kernel)⟩
theorem lw_p23 : lw_okq (⟨"EnemyByLot", "reachesThrough", "(III)Z"⟩, 14) := ⟨⟨by decide +kernel, by decide +kernel⟩, List.mem_of_getElem? (i := 13) (by decide +kernel), List.mem_of_getElem? (i := 549) (by decide +kernel), List.mem_of_getElem? (i := 550) (by decide +kernel)⟩
theorem lw_p24 : lw_okq (⟨"EnemyByLot", "isWish", "(II)Z"⟩, 14) := ⟨⟨by decide +kernel, by decide +kernel⟩, List.mem_of_getElem? (i := 13) (by decide +kernel), List.mem_of_getElem? (i := 557) (by decide +kernel), List.mem_of_getElem? (i := 558) (by decide +kernel)⟩
theorem lw_p25 : lw_okq (⟨"EnemyByLot$Atlas", "add", "(II)V"⟩, 5) := ⟨⟨by decide +kernel, by decide +kernel⟩, List.mem_of_getElem? (i := 58) (by decide +kernel), List.mem_of_getElem? (i := 577) (by decide +kernel), List.mem_of_getElem? (i := 578) (by decide +kernel)⟩
theorem lw_p26 : lw_okq (⟨"EnemyByLot", "strengthsIn", "(I)I"⟩, 14) := ⟨⟨by decide +kernel, by decide +kernel⟩, List.mem_of_getElem? (i := 13) (by decide +kernel), List.mem_of_getElem? (i := 583) (by decide +kernel), List.mem_of_getElem? (i := 584) (by decide +kernel)⟩
theorem lw_p27 : lw_okq (⟨"EnemyByLot", "isMapOfNow", "(LEnemyByLot$Line;)Z"⟩, 14) := ⟨⟨by decide +kernel, by decide +kernel⟩, List.mem_of_getElem? (i := 13) (by decide +kernel), List.mem_of_getElem? (i := 595) (by decide +kernel), List.mem_of_getElem? (i := 596) (by decide +kernel)⟩
theorem lw_p28 : lw_okq (⟨"EnemyByLot", "tell", "(JJ)I"⟩, 14) := ⟨⟨by decide +kernel, by decide +kernel⟩, List.mem_of_getElem? (i := 13) (by decide +kernel), List.mem_of_getElem? (i := 607) (by decide +kernel), List.mem_of_getElem? (i := 608) (by decide +kernel)⟩
theorem lw_p29 : lw_okq (⟨"EnemyByLot", "refuseDraw", "(II)I"⟩, 14) := ⟨⟨by decide +kernel, by decide +kernel⟩, List.mem_of_getElem? (i := 13) (by decide +kernel), List.mem_of_getElem? (i := 618) (by decide +kernel), List.mem_of_getElem? (i := 619) (by decide +kernel)⟩
theorem lw_p30 : lw_okq (⟨"EnemyByLot", "refuseWeeks", "(LEnemyByLot$Line;)I"⟩, 14) := ⟨⟨by decide +kernel, by decide +kernel⟩, List.mem_of_getElem? (i := 13) (by decide +kernel), List.mem_of_getElem? (i := 639) (by decide +kernel), List.mem_of_getElem? (i := 640) (by decide +kernel)⟩
theorem lw_p31 : lw_okq (⟨"EnemyByLot", "seekFits", "(LEnemyByLot$Line;)V"⟩, 14) := ⟨⟨by decide +kernel, by decide +kernel⟩, List.mem_of_getElem? (i := 13) (by decide +kernel), List.mem_of_getElem? (i := 643) (by decide +kernel), List.mem_of_getElem? (i := 644) (by decide +kernel)⟩
def lw_privs_2 : List (MethodName × Nat) := [(⟨"EnemyByLot", "passWeek", "()I"⟩, 14), (⟨"EnemyByLot", "reachedSet", "()I"⟩, 14), (⟨"EnemyByLot", "fineIdle", "()V"⟩, 14), (⟨"EnemyByLot", "shelfAt", "(I)LEnemyByLot$Town;"⟩, 14), (⟨"EnemyByLot", "ringOf", "(I)I"⟩, 14), (⟨"EnemyByLot", "lossOf", "(I)I"⟩, 14), (⟨"EnemyByLot", "fewestWeeks", "(II)I"⟩, 14), (⟨"EnemyByLot", "reachesThrough", "(III)Z"⟩, 14), (⟨"EnemyByLot", "isWish", "(II)Z"⟩, 14), (⟨"EnemyByLot$Atlas", "add", "(II)V"⟩, 5), (⟨"EnemyByLot", "strengthsIn", "(I)I"⟩, 14), (⟨"EnemyByLot", "isMapOfNow", "(LEnemyByLot$Line;)Z"⟩, 14), (⟨"EnemyByLot", "tell", "(JJ)I"⟩, 14), (⟨"EnemyByLot", "refuseDraw", "(II)I"⟩, 14), (⟨"EnemyByLot", "refuseWeeks", "(LEnemyByLot$Line;)I"⟩, 14), (⟨"EnemyByLot", "seekFits", "(LEnemyByLot$Line;)V"⟩, 14)]
theorem lw_r2 : ∀ q ∈ lw_privs_2, lw_okq q := List.forall_mem_cons.mpr ⟨lw_p16, List.forall_mem_cons.mpr ⟨lw_p17, List.forall_mem_cons.mpr ⟨lw_p18, List.forall_mem_cons.mpr ⟨lw_p19, List.forall_mem_cons.mpr ⟨lw_p20, List.forall_mem_cons.mpr ⟨lw_p21, List.forall_mem_cons.mpr ⟨lw_p22, List.forall_mem_cons.mpr ⟨lw_p23, List.forall_mem_cons.mpr ⟨lw_p24, List.forall_mem_cons.mpr ⟨lw_p25, List.forall_mem_cons.mpr ⟨lw_p26, List.forall_mem_cons.mpr ⟨lw_p27, List.forall_mem_cons.mpr ⟨lw_p28, List.forall_mem_cons.mpr ⟨lw_p29, List.forall_mem_cons.mpr ⟨lw_p30, List.forall_mem_cons.mpr ⟨lw_p31, fun _ h => absurd h List.not_mem_nil⟩⟩⟩⟩⟩⟩⟩⟩⟩⟩⟩⟩⟩⟩⟩⟩
theorem lw_p32 : lw_okq (⟨"EnemyByLot$Atlas", "victimsOf", "(II)I"⟩, 5) := ⟨⟨by decide +kernel, by decide +kernel⟩, List.mem_of_getElem? (i := 58) (by decide +kernel), List.mem_of_getElem? (i := 651) (by decide +kernel), List.mem_of_getElem? (i := 652) (by decide +kernel)⟩
theorem lw_p33 : lw_okq (⟨"EnemyByLot", "refuseFits", "(LEnemyByLot$Line;)I"⟩, 14) := ⟨⟨by decide +kernel, by decide +kernel⟩, List.mem_of_getElem? (i := 13) (by decide +kernel), List.mem_of_getElem? (i := 659) (by decide +kernel), List.mem_of_getElem? (i := 660) (by decide +kernel)⟩
theorem lw_p34 : lw_okq (⟨"EnemyByLot", "actByLot", "(IJ)I"⟩, 14) := ⟨⟨by decide +kernel, by decide +kernel⟩, List.mem_of_getElem? (i := 13) (by decide +kernel), List.mem_of_getElem? (i := 681) (by decide +kernel), List.mem_of_getElem? (i := 682) (by decide +kernel)⟩
theorem lw_p35 : lw_okq (⟨"EnemyByLot", "allFines", "()I"⟩, 14) := ⟨⟨by decide +kernel, by decide +kernel⟩, List.mem_of_getElem? (i := 13) (by decide +kernel), List.mem_of_getElem? (i := 703) (by decide +kernel), List.mem_of_getElem? (i := 704) (by decide +kernel)⟩
theorem lw_p36 : lw_okq (⟨"EnemyByLot", "zealots", "()I"⟩, 14) := ⟨⟨by decide +kernel, by decide +kernel⟩, List.mem_of_getElem? (i := 13) (by decide +kernel), List.mem_of_getElem? (i := 707) (by decide +kernel), List.mem_of_getElem? (i := 708) (by decide +kernel)⟩
theorem lw_p37 : lw_okq (⟨"EnemyByLot", "keptTowns", "()I"⟩, 14) := ⟨⟨by decide +kernel, by decide +kernel⟩, List.mem_of_getElem? (i := 13) (by decide +kernel), List.mem_of_getElem? (i := 714) (by decide +kernel), List.mem_of_getElem? (i := 715) (by decide +kernel)⟩
theorem lw_p38 : lw_okq (⟨"EnemyByLotModel", "find", "(I)I"⟩, 28) := ⟨⟨by decide +kernel, by decide +kernel⟩, List.mem_of_getElem? (i := 738) (by decide +kernel), List.mem_of_getElem? (i := 840) (by decide +kernel), List.mem_of_getElem? (i := 841) (by decide +kernel)⟩
theorem lw_p39 : lw_okq (⟨"EnemyByLotModel", "makeRow", "(II)V"⟩, 28) := ⟨⟨by decide +kernel, by decide +kernel⟩, List.mem_of_getElem? (i := 738) (by decide +kernel), List.mem_of_getElem? (i := 844) (by decide +kernel), List.mem_of_getElem? (i := 845) (by decide +kernel)⟩
theorem lw_p40 : lw_okq (⟨"EnemyByLotModel", "refused", "(II)I"⟩, 28) := ⟨⟨by decide +kernel, by decide +kernel⟩, List.mem_of_getElem? (i := 738) (by decide +kernel), List.mem_of_getElem? (i := 852) (by decide +kernel), List.mem_of_getElem? (i := 853) (by decide +kernel)⟩
theorem lw_p41 : lw_okq (⟨"EnemyByLotModel", "tell", "(I)I"⟩, 28) := ⟨⟨by decide +kernel, by decide +kernel⟩, List.mem_of_getElem? (i := 738) (by decide +kernel), List.mem_of_getElem? (i := 856) (by decide +kernel), List.mem_of_getElem? (i := 857) (by decide +kernel)⟩
theorem lw_p42 : lw_okq (⟨"EnemyByLotModel", "isSpan", "(III)Z"⟩, 28) := ⟨⟨by decide +kernel, by decide +kernel⟩, List.mem_of_getElem? (i := 738) (by decide +kernel), List.mem_of_getElem? (i := 872) (by decide +kernel), List.mem_of_getElem? (i := 873) (by decide +kernel)⟩
theorem lw_p43 : lw_okq (⟨"EnemyByLotModel", "faultOf", "(I)I"⟩, 28) := ⟨⟨by decide +kernel, by decide +kernel⟩, List.mem_of_getElem? (i := 738) (by decide +kernel), List.mem_of_getElem? (i := 896) (by decide +kernel), List.mem_of_getElem? (i := 897) (by decide +kernel)⟩
theorem lw_p44 : lw_okq (⟨"EnemyByLotModel", "skip", "()V"⟩, 28) := ⟨⟨by decide +kernel, by decide +kernel⟩, List.mem_of_getElem? (i := 738) (by decide +kernel), List.mem_of_getElem? (i := 900) (by decide +kernel), List.mem_of_getElem? (i := 901) (by decide +kernel)⟩
theorem lw_p45 : lw_okq (⟨"EnemyByLotModel", "here", "()I"⟩, 28) := ⟨⟨by decide +kernel, by decide +kernel⟩, List.mem_of_getElem? (i := 738) (by decide +kernel), List.mem_of_getElem? (i := 904) (by decide +kernel), List.mem_of_getElem? (i := 905) (by decide +kernel)⟩
theorem lw_p46 : lw_okq (⟨"EnemyByLotModel", "readsLove", "()Z"⟩, 28) := ⟨⟨by decide +kernel, by decide +kernel⟩, List.mem_of_getElem? (i := 738) (by decide +kernel), List.mem_of_getElem? (i := 908) (by decide +kernel), List.mem_of_getElem? (i := 909) (by decide +kernel)⟩
theorem lw_p47 : lw_okq (⟨"EnemyByLotModel", "figure", "(II)I"⟩, 28) := ⟨⟨by decide +kernel, by decide +kernel⟩, List.mem_of_getElem? (i := 738) (by decide +kernel), List.mem_of_getElem? (i := 912) (by decide +kernel), List.mem_of_getElem? (i := 913) (by decide +kernel)⟩
def lw_privs_3 : List (MethodName × Nat) := [(⟨"EnemyByLot$Atlas", "victimsOf", "(II)I"⟩, 5), (⟨"EnemyByLot", "refuseFits", "(LEnemyByLot$Line;)I"⟩, 14), (⟨"EnemyByLot", "actByLot", "(IJ)I"⟩, 14), (⟨"EnemyByLot", "allFines", "()I"⟩, 14), (⟨"EnemyByLot", "zealots", "()I"⟩, 14), (⟨"EnemyByLot", "keptTowns", "()I"⟩, 14), (⟨"EnemyByLotModel", "find", "(I)I"⟩, 28), (⟨"EnemyByLotModel", "makeRow", "(II)V"⟩, 28), (⟨"EnemyByLotModel", "refused", "(II)I"⟩, 28), (⟨"EnemyByLotModel", "tell", "(I)I"⟩, 28), (⟨"EnemyByLotModel", "isSpan", "(III)Z"⟩, 28), (⟨"EnemyByLotModel", "faultOf", "(I)I"⟩, 28), (⟨"EnemyByLotModel", "skip", "()V"⟩, 28), (⟨"EnemyByLotModel", "here", "()I"⟩, 28), (⟨"EnemyByLotModel", "readsLove", "()Z"⟩, 28), (⟨"EnemyByLotModel", "figure", "(II)I"⟩, 28)]
theorem lw_r3 : ∀ q ∈ lw_privs_3, lw_okq q := List.forall_mem_cons.mpr ⟨lw_p32, List.forall_mem_cons.mpr ⟨lw_p33, List.forall_mem_cons.mpr ⟨lw_p34, List.forall_mem_cons.mpr ⟨lw_p35, List.forall_mem_cons.mpr ⟨lw_p36, List.forall_mem_cons.mpr ⟨lw_p37, List.forall_mem_cons.mpr ⟨lw_p38, List.forall_mem_cons.mpr ⟨lw_p39, List.forall_mem_cons.mpr ⟨lw_p40, List.forall_mem_cons.mpr ⟨lw_p41, List.forall_mem_cons.mpr ⟨lw_p42, List.forall_mem_cons.mpr ⟨lw_p43, List.forall_mem_cons.mpr ⟨lw_p44, List.forall_mem_cons.mpr ⟨lw_p45, List.forall_mem_cons.mpr ⟨lw_p46, List.forall_mem_cons.mpr ⟨lw_p47, fun _ h => absurd h List.not_mem_nil⟩⟩⟩⟩⟩⟩⟩⟩⟩⟩⟩⟩⟩⟩⟩⟩
theorem lw_p48 : lw_okq (⟨"EnemyByLotModel", "readsPerson", "()Z"⟩, 28) := ⟨⟨by decide +kernel, by decide +kernel⟩, List.mem_of_getElem? (i := 738) (by decide +kernel), List.mem_of_getElem? (i := 919) (by decide +kernel), List.mem_of_getElem? (i := 920) (by decide +kernel)⟩
theorem lw_p49 : lw_okq (⟨"EnemyByLotModel", "areVictims", "()Z"⟩, 28) := ⟨⟨by decide +kernel, by decide +kernel⟩, List.mem_of_getElem? (i := 738) (by decide +kernel), List.mem_of_getElem? (i := 926) (by decide +kernel), List.mem_of_getElem? (i := 927) (by decide +kernel)⟩
theorem lw_p50 : lw_okq (⟨"EnemyByLotModel", "isPerson", "(I)Z"⟩, 28) := ⟨⟨by decide +kernel, by decide +kernel⟩, List.mem_of_getElem? (i := 738) (by decide +kernel), List.mem_of_getElem? (i := 938) (by decide +kernel), List.mem_of_getElem? (i := 939) (by decide +kernel)⟩
theorem lw_p51 : lw_okq (⟨"EnemyByLotModel", "toldOf", "(II)I"⟩, 28) := ⟨⟨by decide +kernel, by decide +kernel⟩, List.mem_of_getElem? (i := 738) (by decide +kernel), List.mem_of_getElem? (i := 943) (by decide +kernel), List.mem_of_getElem? (i := 944) (by decide +kernel)⟩
theorem lw_p52 : lw_okq (⟨"EnemyByLotModel", "victim", "(I)I"⟩, 28) := ⟨⟨by decide +kernel, by decide +kernel⟩, List.mem_of_getElem? (i := 738) (by decide +kernel), List.mem_of_getElem? (i := 947) (by decide +kernel), List.mem_of_getElem? (i := 948) (by decide +kernel)⟩
theorem lw_p53 : lw_okq (⟨"EnemyByLotModel", "foe", "(I)I"⟩, 28) := ⟨⟨by decide +kernel, by decide +kernel⟩, List.mem_of_getElem? (i := 738) (by decide +kernel), List.mem_of_getElem? (i := 951) (by decide +kernel), List.mem_of_getElem? (i := 952) (by decide +kernel)⟩
theorem lw_p54 : lw_okq (⟨"EnemyByLotModel", "isReached", "(I)Z"⟩, 28) := ⟨⟨by decide +kernel, by decide +kernel⟩, List.mem_of_getElem? (i := 738) (by decide +kernel), List.mem_of_getElem? (i := 955) (by decide +kernel), List.mem_of_getElem? (i := 956) (by decide +kernel)⟩
theorem lw_p55 : lw_okq (⟨"EnemyByLotModel", "isOf", "(II)Z"⟩, 28) := ⟨⟨by decide +kernel, by decide +kernel⟩, List.mem_of_getElem? (i := 738) (by decide +kernel), List.mem_of_getElem? (i := 963) (by decide +kernel), List.mem_of_getElem? (i := 964) (by decide +kernel)⟩
theorem lw_p56 : lw_okq (⟨"EnemyByLotModel", "plain", "(I)I"⟩, 28) := ⟨⟨by decide +kernel, by decide +kernel⟩, List.mem_of_getElem? (i := 738) (by decide +kernel), List.mem_of_getElem? (i := 967) (by decide +kernel), List.mem_of_getElem? (i := 968) (by decide +kernel)⟩
theorem lw_p57 : lw_okq (⟨"EnemyByLotModel", "saved", "(I)I"⟩, 28) := ⟨⟨by decide +kernel, by decide +kernel⟩, List.mem_of_getElem? (i := 738) (by decide +kernel), List.mem_of_getElem? (i := 971) (by decide +kernel), List.mem_of_getElem? (i := 972) (by decide +kernel)⟩
theorem lw_p58 : lw_okq (⟨"EnemyByLotModel", "strengthOf", "(II)I"⟩, 28) := ⟨⟨by decide +kernel, by decide +kernel⟩, List.mem_of_getElem? (i := 738) (by decide +kernel), List.mem_of_getElem? (i := 975) (by decide +kernel), List.mem_of_getElem? (i := 976) (by decide +kernel)⟩
theorem lw_p59 : lw_okq (⟨"EnemyByLotModel", "weeksForNine", "(I)I"⟩, 28) := ⟨⟨by decide +kernel, by decide +kernel⟩, List.mem_of_getElem? (i := 738) (by decide +kernel), List.mem_of_getElem? (i := 982) (by decide +kernel), List.mem_of_getElem? (i := 983) (by decide +kernel)⟩
theorem lw_p60 : lw_okq (⟨"EnemyByLotModel", "owes", "(II)Z"⟩, 28) := ⟨⟨by decide +kernel, by decide +kernel⟩, List.mem_of_getElem? (i := 738) (by decide +kernel), List.mem_of_getElem? (i := 986) (by decide +kernel), List.mem_of_getElem? (i := 987) (by decide +kernel)⟩
theorem lw_p61 : lw_okq (⟨"EnemyByLotModel", "areTwo", "(II)Z"⟩, 28) := ⟨⟨by decide +kernel, by decide +kernel⟩, List.mem_of_getElem? (i := 738) (by decide +kernel), List.mem_of_getElem? (i := 994) (by decide +kernel), List.mem_of_getElem? (i := 995) (by decide +kernel)⟩
theorem lw_p62 : lw_okq (⟨"EnemyByLotModel", "isWeek", "(I)Z"⟩, 28) := ⟨⟨by decide +kernel, by decide +kernel⟩, List.mem_of_getElem? (i := 738) (by decide +kernel), List.mem_of_getElem? (i := 1002) (by decide +kernel), List.mem_of_getElem? (i := 1003) (by decide +kernel)⟩
theorem lw_p63 : lw_okq (⟨"EnemyByLotModel", "pass", "()I"⟩, 28) := ⟨⟨by decide +kernel, by decide +kernel⟩, List.mem_of_getElem? (i := 738) (by decide +kernel), List.mem_of_getElem? (i := 1007) (by decide +kernel), List.mem_of_getElem? (i := 1008) (by decide +kernel)⟩
def lw_privs_4 : List (MethodName × Nat) := [(⟨"EnemyByLotModel", "readsPerson", "()Z"⟩, 28), (⟨"EnemyByLotModel", "areVictims", "()Z"⟩, 28), (⟨"EnemyByLotModel", "isPerson", "(I)Z"⟩, 28), (⟨"EnemyByLotModel", "toldOf", "(II)I"⟩, 28), (⟨"EnemyByLotModel", "victim", "(I)I"⟩, 28), (⟨"EnemyByLotModel", "foe", "(I)I"⟩, 28), (⟨"EnemyByLotModel", "isReached", "(I)Z"⟩, 28), (⟨"EnemyByLotModel", "isOf", "(II)Z"⟩, 28), (⟨"EnemyByLotModel", "plain", "(I)I"⟩, 28), (⟨"EnemyByLotModel", "saved", "(I)I"⟩, 28), (⟨"EnemyByLotModel", "strengthOf", "(II)I"⟩, 28), (⟨"EnemyByLotModel", "weeksForNine", "(I)I"⟩, 28), (⟨"EnemyByLotModel", "owes", "(II)Z"⟩, 28), (⟨"EnemyByLotModel", "areTwo", "(II)Z"⟩, 28), (⟨"EnemyByLotModel", "isWeek", "(I)Z"⟩, 28), (⟨"EnemyByLotModel", "pass", "()I"⟩, 28)]
theorem lw_r4 : ∀ q ∈ lw_privs_4, lw_okq q := List.forall_mem_cons.mpr ⟨lw_p48, List.forall_mem_cons.mpr ⟨lw_p49, List.forall_mem_cons.mpr ⟨lw_p50, List.forall_mem_cons.mpr ⟨lw_p51, List.forall_mem_cons.mpr ⟨lw_p52, List.forall_mem_cons.mpr ⟨lw_p53, List.forall_mem_cons.mpr ⟨lw_p54, List.forall_mem_cons.mpr ⟨lw_p55, List.forall_mem_cons.mpr ⟨lw_p56, List.forall_mem_cons.mpr ⟨lw_p57, List.forall_mem_cons.mpr ⟨lw_p58, List.forall_mem_cons.mpr ⟨lw_p59, List.forall_mem_cons.mpr ⟨lw_p60, List.forall_mem_cons.mpr ⟨lw_p61, List.forall_mem_cons.mpr ⟨lw_p62, List.forall_mem_cons.mpr ⟨lw_p63, fun _ h => absurd h List.not_mem_nil⟩⟩⟩⟩⟩⟩⟩⟩⟩⟩⟩⟩⟩⟩⟩⟩
theorem lw_p64 : lw_okq (⟨"EnemyByLotModel", "keepPast", "()V"⟩, 28) := ⟨⟨by decide +kernel, by decide +kernel⟩, List.mem_of_getElem? (i := 738) (by decide +kernel), List.mem_of_getElem? (i := 1011) (by decide +kernel), List.mem_of_getElem? (i := 1012) (by decide +kernel)⟩
theorem lw_p65 : lw_okq (⟨"EnemyByLotModel", "change", "(II)V"⟩, 28) := ⟨⟨by decide +kernel, by decide +kernel⟩, List.mem_of_getElem? (i := 738) (by decide +kernel), List.mem_of_getElem? (i := 1019) (by decide +kernel), List.mem_of_getElem? (i := 1020) (by decide +kernel)⟩
theorem lw_p66 : lw_okq (⟨"EnemyByLotModel", "copyTown", "(II)V"⟩, 28) := ⟨⟨by decide +kernel, by decide +kernel⟩, List.mem_of_getElem? (i := 738) (by decide +kernel), List.mem_of_getElem? (i := 1031) (by decide +kernel), List.mem_of_getElem? (i := 1032) (by decide +kernel)⟩
theorem lw_p67 : lw_okq (⟨"EnemyByLotModel", "ringOf", "(I)I"⟩, 28) := ⟨⟨by decide +kernel, by decide +kernel⟩, List.mem_of_getElem? (i := 738) (by decide +kernel), List.mem_of_getElem? (i := 1043) (by decide +kernel), List.mem_of_getElem? (i := 1044) (by decide +kernel)⟩
theorem lw_p68 : lw_okq (⟨"EnemyByLotModel", "against", "(I)I"⟩, 28) := ⟨⟨by decide +kernel, by decide +kernel⟩, List.mem_of_getElem? (i := 738) (by decide +kernel), List.mem_of_getElem? (i := 1055) (by decide +kernel), List.mem_of_getElem? (i := 1056) (by decide +kernel)⟩
theorem lw_p69 : lw_okq (⟨"EnemyByLotModel", "weeksOf", "(III)I"⟩, 28) := ⟨⟨by decide +kernel, by decide +kernel⟩, List.mem_of_getElem? (i := 738) (by decide +kernel), List.mem_of_getElem? (i := 1064) (by decide +kernel), List.mem_of_getElem? (i := 1065) (by decide +kernel)⟩
theorem lw_p70 : lw_okq (⟨"EnemyByLotModel", "isReachedBy", "(III)Z"⟩, 28) := ⟨⟨by decide +kernel, by decide +kernel⟩, List.mem_of_getElem? (i := 738) (by decide +kernel), List.mem_of_getElem? (i := 1077) (by decide +kernel), List.mem_of_getElem? (i := 1078) (by decide +kernel)⟩
theorem lw_p71 : lw_okq (⟨"EnemyByLotModel", "wish", "(II)Z"⟩, 28) := ⟨⟨by decide +kernel, by decide +kernel⟩, List.mem_of_getElem? (i := 738) (by decide +kernel), List.mem_of_getElem? (i := 1085) (by decide +kernel), List.mem_of_getElem? (i := 1086) (by decide +kernel)⟩
theorem lw_p72 : lw_okq (⟨"EnemyByLotModel", "victimsNow", "()I"⟩, 28) := ⟨⟨by decide +kernel, by decide +kernel⟩, List.mem_of_getElem? (i := 738) (by decide +kernel), List.mem_of_getElem? (i := 1093) (by decide +kernel), List.mem_of_getElem? (i := 1094) (by decide +kernel)⟩
theorem lw_p73 : lw_okq (⟨"EnemyByLotModel", "leftOf", "(I)I"⟩, 28) := ⟨⟨by decide +kernel, by decide +kernel⟩, List.mem_of_getElem? (i := 738) (by decide +kernel), List.mem_of_getElem? (i := 1097) (by decide +kernel), List.mem_of_getElem? (i := 1098) (by decide +kernel)⟩
theorem lw_p74 : lw_okq (⟨"EnemyByLotModel", "strengthsTried", "()I"⟩, 28) := ⟨⟨by decide +kernel, by decide +kernel⟩, List.mem_of_getElem? (i := 738) (by decide +kernel), List.mem_of_getElem? (i := 1101) (by decide +kernel), List.mem_of_getElem? (i := 1102) (by decide +kernel)⟩
theorem lw_p75 : lw_okq (⟨"EnemyByLotModel", "nextTried", "()Z"⟩, 28) := ⟨⟨by decide +kernel, by decide +kernel⟩, List.mem_of_getElem? (i := 738) (by decide +kernel), List.mem_of_getElem? (i := 1105) (by decide +kernel), List.mem_of_getElem? (i := 1106) (by decide +kernel)⟩
theorem lw_p76 : lw_okq (⟨"EnemyByLotModel", "isMap", "(I)Z"⟩, 28) := ⟨⟨by decide +kernel, by decide +kernel⟩, List.mem_of_getElem? (i := 738) (by decide +kernel), List.mem_of_getElem? (i := 1113) (by decide +kernel), List.mem_of_getElem? (i := 1114) (by decide +kernel)⟩
theorem lw_p77 : lw_okq (⟨"EnemyByLotModel", "layMaps", "(Z)V"⟩, 28) := ⟨⟨by decide +kernel, by decide +kernel⟩, List.mem_of_getElem? (i := 738) (by decide +kernel), List.mem_of_getElem? (i := 1121) (by decide +kernel), List.mem_of_getElem? (i := 1122) (by decide +kernel)⟩
theorem lw_p78 : lw_okq (⟨"EnemyByLotModel", "tellMany", "(I)I"⟩, 28) := ⟨⟨by decide +kernel, by decide +kernel⟩, List.mem_of_getElem? (i := 738) (by decide +kernel), List.mem_of_getElem? (i := 1125) (by decide +kernel), List.mem_of_getElem? (i := 1126) (by decide +kernel)⟩
theorem lw_p79 : lw_okq (⟨"EnemyByLotModel", "tellParts", "(JJ)I"⟩, 28) := ⟨⟨by decide +kernel, by decide +kernel⟩, List.mem_of_getElem? (i := 738) (by decide +kernel), List.mem_of_getElem? (i := 1136) (by decide +kernel), List.mem_of_getElem? (i := 1137) (by decide +kernel)⟩
def lw_privs_5 : List (MethodName × Nat) := [(⟨"EnemyByLotModel", "keepPast", "()V"⟩, 28), (⟨"EnemyByLotModel", "change", "(II)V"⟩, 28), (⟨"EnemyByLotModel", "copyTown", "(II)V"⟩, 28), (⟨"EnemyByLotModel", "ringOf", "(I)I"⟩, 28), (⟨"EnemyByLotModel", "against", "(I)I"⟩, 28), (⟨"EnemyByLotModel", "weeksOf", "(III)I"⟩, 28), (⟨"EnemyByLotModel", "isReachedBy", "(III)Z"⟩, 28), (⟨"EnemyByLotModel", "wish", "(II)Z"⟩, 28), (⟨"EnemyByLotModel", "victimsNow", "()I"⟩, 28), (⟨"EnemyByLotModel", "leftOf", "(I)I"⟩, 28), (⟨"EnemyByLotModel", "strengthsTried", "()I"⟩, 28), (⟨"EnemyByLotModel", "nextTried", "()Z"⟩, 28), (⟨"EnemyByLotModel", "isMap", "(I)Z"⟩, 28), (⟨"EnemyByLotModel", "layMaps", "(Z)V"⟩, 28), (⟨"EnemyByLotModel", "tellMany", "(I)I"⟩, 28), (⟨"EnemyByLotModel", "tellParts", "(JJ)I"⟩, 28)]
theorem lw_r5 : ∀ q ∈ lw_privs_5, lw_okq q := List.forall_mem_cons.mpr ⟨lw_p64, List.forall_mem_cons.mpr ⟨lw_p65, List.forall_mem_cons.mpr ⟨lw_p66, List.forall_mem_cons.mpr ⟨lw_p67, List.forall_mem_cons.mpr ⟨lw_p68, List.forall_mem_cons.mpr ⟨lw_p69, List.forall_mem_cons.mpr ⟨lw_p70, List.forall_mem_cons.mpr ⟨lw_p71, List.forall_mem_cons.mpr ⟨lw_p72, List.forall_mem_cons.mpr ⟨lw_p73, List.forall_mem_cons.mpr ⟨lw_p74, List.forall_mem_cons.mpr ⟨lw_p75, List.forall_mem_cons.mpr ⟨lw_p76, List.forall_mem_cons.mpr ⟨lw_p77, List.forall_mem_cons.mpr ⟨lw_p78, List.forall_mem_cons.mpr ⟨lw_p79, fun _ h => absurd h List.not_mem_nil⟩⟩⟩⟩⟩⟩⟩⟩⟩⟩⟩⟩⟩⟩⟩⟩
theorem lw_p80 : lw_okq (⟨"EnemyByLotModel", "layFits", "(I)I"⟩, 28) := ⟨⟨by decide +kernel, by decide +kernel⟩, List.mem_of_getElem? (i := 738) (by decide +kernel), List.mem_of_getElem? (i := 1148) (by decide +kernel), List.mem_of_getElem? (i := 1149) (by decide +kernel)⟩
theorem lw_p81 : lw_okq (⟨"EnemyByLotModel", "victimsOf", "(II)I"⟩, 28) := ⟨⟨by decide +kernel, by decide +kernel⟩, List.mem_of_getElem? (i := 738) (by decide +kernel), List.mem_of_getElem? (i := 1152) (by decide +kernel), List.mem_of_getElem? (i := 1153) (by decide +kernel)⟩
theorem lw_p82 : lw_okq (⟨"EnemyByLotModel", "mostLeft", "(I)I"⟩, 28) := ⟨⟨by decide +kernel, by decide +kernel⟩, List.mem_of_getElem? (i := 738) (by decide +kernel), List.mem_of_getElem? (i := 1164) (by decide +kernel), List.mem_of_getElem? (i := 1165) (by decide +kernel)⟩
theorem lw_p83 : lw_okq (⟨"EnemyByLotModel", "countOf", "(I)I"⟩, 28) := ⟨⟨by decide +kernel, by decide +kernel⟩, List.mem_of_getElem? (i := 738) (by decide +kernel), List.mem_of_getElem? (i := 1193) (by decide +kernel), List.mem_of_getElem? (i := 1194) (by decide +kernel)⟩
theorem lw_p84 : lw_okq (⟨"EnemyByLotModel", "sumFrom", "(I)I"⟩, 28) := ⟨⟨by decide +kernel, by decide +kernel⟩, List.mem_of_getElem? (i := 738) (by decide +kernel), List.mem_of_getElem? (i := 1197) (by decide +kernel), List.mem_of_getElem? (i := 1198) (by decide +kernel)⟩
theorem lw_p85 : lw_okq (⟨"EnemyByLotModel", "zealots", "()I"⟩, 28) := ⟨⟨by decide +kernel, by decide +kernel⟩, List.mem_of_getElem? (i := 738) (by decide +kernel), List.mem_of_getElem? (i := 1201) (by decide +kernel), List.mem_of_getElem? (i := 1202) (by decide +kernel)⟩
theorem lw_p86 : lw_okq (⟨"EnemyByLotModel", "thereOf", "(I)I"⟩, 28) := ⟨⟨by decide +kernel, by decide +kernel⟩, List.mem_of_getElem? (i := 738) (by decide +kernel), List.mem_of_getElem? (i := 1205) (by decide +kernel), List.mem_of_getElem? (i := 1206) (by decide +kernel)⟩
def lw_privs_6 : List (MethodName × Nat) := [(⟨"EnemyByLotModel", "layFits", "(I)I"⟩, 28), (⟨"EnemyByLotModel", "victimsOf", "(II)I"⟩, 28), (⟨"EnemyByLotModel", "mostLeft", "(I)I"⟩, 28), (⟨"EnemyByLotModel", "countOf", "(I)I"⟩, 28), (⟨"EnemyByLotModel", "sumFrom", "(I)I"⟩, 28), (⟨"EnemyByLotModel", "zealots", "()I"⟩, 28), (⟨"EnemyByLotModel", "thereOf", "(I)I"⟩, 28)]
theorem lw_r6 : ∀ q ∈ lw_privs_6, lw_okq q := List.forall_mem_cons.mpr ⟨lw_p80, List.forall_mem_cons.mpr ⟨lw_p81, List.forall_mem_cons.mpr ⟨lw_p82, List.forall_mem_cons.mpr ⟨lw_p83, List.forall_mem_cons.mpr ⟨lw_p84, List.forall_mem_cons.mpr ⟨lw_p85, List.forall_mem_cons.mpr ⟨lw_p86, fun _ h => absurd h List.not_mem_nil⟩⟩⟩⟩⟩⟩⟩
def lw_privs : List (MethodName × Nat) := lw_privs_1 ++ (lw_privs_2 ++ (lw_privs_3 ++ (lw_privs_4 ++ (lw_privs_5 ++ (lw_privs_6)))))
def lw_tbl : List Cond := k2_sels lw_privs ++ tables_1
theorem lw_privs_ok : ∀ q ∈ lw_privs, lw_okq q := by
  show ∀ q ∈ lw_privs_1 ++ (lw_privs_2 ++ (lw_privs_3 ++ (lw_privs_4 ++ (lw_privs_5 ++ (lw_privs_6))))), lw_okq q
  exact List.forall_mem_append.mpr ⟨lw_r1, List.forall_mem_append.mpr ⟨lw_r2, List.forall_mem_append.mpr ⟨lw_r3, List.forall_mem_append.mpr ⟨lw_r4, List.forall_mem_append.mpr ⟨lw_r5, lw_r6⟩⟩⟩⟩⟩
end
section
/-! ===== BEGIN printed: names, fields, word lists, decode rows ===== -/
def RX0 : String := "EnemyByLot$Atlas"
def TX0 : u_T := fun k => match k with
  | 0 => ("EnemyByLot$Atlas", "found", "[I", true)
  | 1 => ("EnemyByLot$Atlas", "barred", "[I", true)
  | 2 => ("EnemyByLot$Atlas", "alike", "[I", true)
  | 3 => ("EnemyByLot$Atlas", "number", "I", false)
  | _ => ("EnemyByLot$Atlas", "size", "I", false)
def tyX0 : Nat → FieldType := fun k => match k with
  | 0 => .array .int
  | 1 => .array .int
  | 2 => .array .int
  | 3 => .int
  | _ => .int
abbrev wsX00 : List Cond := u_ws RX0 TX0 5
theorem nmX0 : ∀ a, a < 5 → ∀ b, b < 5 → a ≠ b → (TX0 a).2.1 ≠ (TX0 b).2.1 := by decide +kernel
theorem tyX0_ok : ∀ k, k < 5 → parseFieldDescriptor (TX0 k).2.2.1 = some (tyX0 k) := by decide +kernel
abbrev cX0_init : ByteArray := prog_2_method_1_code
def yX0_init : MethodName := ⟨RX0, "<init>", "()V"⟩
abbrev cX0_seek : ByteArray := prog_2_method_2_code
def yX0_seek : MethodName := ⟨RX0, "seek", "(LEnemyByLot$Folk;IZ)V"⟩
abbrev cX0_draw : ByteArray := prog_2_method_3_code
def yX0_draw : MethodName := ⟨RX0, "draw", "(LEnemyByLot$Atlas;III)V"⟩
abbrev cX0_add : ByteArray := prog_2_method_4_code
def yX0_add : MethodName := ⟨RX0, "add", "(II)V"⟩
abbrev cX0_victimIn : ByteArray := prog_2_method_5_code
def yX0_victimIn : MethodName := ⟨RX0, "victimIn", "(II)I"⟩
abbrev cX0_victimsOf : ByteArray := prog_2_method_6_code
def yX0_victimsOf : MethodName := ⟨RX0, "victimsOf", "(II)I"⟩
abbrev cX0_retain : ByteArray := prog_2_method_7_code
def yX0_retain : MethodName := ⟨RX0, "retain", "(II)V"⟩
abbrev cX0_countPair : ByteArray := prog_2_method_8_code
def yX0_countPair : MethodName := ⟨RX0, "countPair", "(II)I"⟩
abbrev cX0_countMutual : ByteArray := prog_2_method_9_code
def yX0_countMutual : MethodName := ⟨RX0, "countMutual", "(II)I"⟩
abbrev cX0_mostAlike : ByteArray := prog_2_method_10_code
def yX0_mostAlike : MethodName := ⟨RX0, "mostAlike", "(I)I"⟩
def RX1 : String := "EnemyByLot$Folk"
def TX1 : u_T := fun k => match k with
  | 0 => ("EnemyByLot$Folk", "kinds", "[I", true)
  | 1 => ("EnemyByLot$Folk", "aims", "[I", true)
  | 2 => ("EnemyByLot$Folk", "zeals", "[I", true)
  | 3 => ("EnemyByLot$Folk", "loved", "[I", true)
  | 4 => ("EnemyByLot$Folk", "firstVictims", "[I", true)
  | 5 => ("EnemyByLot$Folk", "size", "I", false)
  | _ => ("EnemyByLot$Folk", "loves", "I", false)
def tyX1 : Nat → FieldType := fun k => match k with
  | 0 => .array .int
  | 1 => .array .int
  | 2 => .array .int
  | 3 => .array .int
  | 4 => .array .int
  | 5 => .int
  | _ => .int
abbrev wsX10 : List Cond := u_ws RX1 TX1 7
theorem nmX1 : ∀ a, a < 7 → ∀ b, b < 7 → a ≠ b → (TX1 a).2.1 ≠ (TX1 b).2.1 := by decide +kernel
theorem tyX1_ok : ∀ k, k < 7 → parseFieldDescriptor (TX1 k).2.2.1 = some (tyX1 k) := by decide +kernel
abbrev cX1_init : ByteArray := prog_3_method_1_code
def yX1_init : MethodName := ⟨RX1, "<init>", "()V"⟩
abbrev cX1_clear : ByteArray := prog_3_method_2_code
def yX1_clear : MethodName := ⟨RX1, "clear", "()V"⟩
abbrev cX1_join : ByteArray := prog_3_method_3_code
def yX1_join : MethodName := ⟨RX1, "join", "(IIII)V"⟩
abbrev cX1_pair : ByteArray := prog_3_method_4_code
def yX1_pair : MethodName := ⟨RX1, "pair", "(II)V"⟩
abbrev cX1_has : ByteArray := prog_3_method_5_code
def yX1_has : MethodName := ⟨RX1, "has", "(I)Z"⟩
abbrev cX1_everyone : ByteArray := prog_3_method_6_code
def yX1_everyone : MethodName := ⟨RX1, "everyone", "()I"⟩
abbrev cX1_kindOf : ByteArray := prog_3_method_7_code
def yX1_kindOf : MethodName := ⟨RX1, "kindOf", "(I)I"⟩
abbrev cX1_aimOf : ByteArray := prog_3_method_8_code
def yX1_aimOf : MethodName := ⟨RX1, "aimOf", "(I)I"⟩
abbrev cX1_zealOf : ByteArray := prog_3_method_9_code
def yX1_zealOf : MethodName := ⟨RX1, "zealOf", "(I)I"⟩
abbrev cX1_lovedBy : ByteArray := prog_3_method_10_code
def yX1_lovedBy : MethodName := ⟨RX1, "lovedBy", "(I)I"⟩
abbrev cX1_firstVictimOf : ByteArray := prog_3_method_11_code
def yX1_firstVictimOf : MethodName := ⟨RX1, "firstVictimOf", "(I)I"⟩
abbrev cX1_isOf : ByteArray := prog_3_method_12_code
def yX1_isOf : MethodName := ⟨RX1, "isOf", "(II)Z"⟩
abbrev cX1_power : ByteArray := prog_3_method_13_code
def yX1_power : MethodName := ⟨RX1, "power", "(I)I"⟩
abbrev cX1_against : ByteArray := prog_3_method_14_code
def yX1_against : MethodName := ⟨RX1, "against", "(II)I"⟩
def RX2 : String := "EnemyByLot$Line"
def TX2 : u_T := fun k => match k with
  | 0 => ("EnemyByLot$Line", "places", "[I", true)
  | _ => ("EnemyByLot$Line", "size", "I", false)
def tyX2 : Nat → FieldType := fun k => match k with
  | 0 => .array .int
  | _ => .int
abbrev wsX20 : List Cond := u_ws RX2 TX2 2
theorem nmX2 : ∀ a, a < 2 → ∀ b, b < 2 → a ≠ b → (TX2 a).2.1 ≠ (TX2 b).2.1 := by decide +kernel
theorem tyX2_ok : ∀ k, k < 2 → parseFieldDescriptor (TX2 k).2.2.1 = some (tyX2 k) := by decide +kernel
abbrev cX2_init : ByteArray := prog_4_method_1_code
def yX2_init : MethodName := ⟨RX2, "<init>", "(I)V"⟩
abbrev cX2_isMissing : ByteArray := prog_4_method_2_code
def yX2_isMissing : MethodName := ⟨RX2, "isMissing", "()Z"⟩
abbrev cX2_holds : ByteArray := prog_4_method_3_code
def yX2_holds : MethodName := ⟨RX2, "holds", "(I)Z"⟩
abbrev cX2_holdsSpan : ByteArray := prog_4_method_4_code
def yX2_holdsSpan : MethodName := ⟨RX2, "holdsSpan", "(II)Z"⟩
abbrev cX2_get : ByteArray := prog_4_method_5_code
def yX2_get : MethodName := ⟨RX2, "get", "(I)I"⟩
abbrev cX2_set : ByteArray := prog_4_method_6_code
def yX2_set : MethodName := ⟨RX2, "set", "(II)V"⟩
abbrev cX2_renew : ByteArray := prog_4_method_7_code
def yX2_renew : MethodName := ⟨RX2, "renew", "(II)V"⟩
abbrev cX2_discard : ByteArray := prog_4_method_8_code
def yX2_discard : MethodName := ⟨RX2, "discard", "()V"⟩
abbrev cX2_take : ByteArray := prog_4_method_9_code
def yX2_take : MethodName := ⟨RX2, "take", "(LEnemyByLot$Line;III)V"⟩
abbrev cX2_meanCut : ByteArray := prog_4_method_10_code
def yX2_meanCut : MethodName := ⟨RX2, "meanCut", "()I"⟩
abbrev cX2_mixInto : ByteArray := prog_4_method_11_code
def yX2_mixInto : MethodName := ⟨RX2, "mixInto", "(J)J"⟩
def RX3 : String := "EnemyByLot$Reader"
def TX3 : u_T := fun k => match k with
  | _ => ("EnemyByLot$Reader", "figurePlaces", "[I", true)
def tyX3 : Nat → FieldType := fun k => match k with
  | _ => .array .int
abbrev wsX30 : List Cond := u_ws RX3 TX3 1
theorem nmX3 : ∀ a, a < 1 → ∀ b, b < 1 → a ≠ b → (TX3 a).2.1 ≠ (TX3 b).2.1 := by decide +kernel
theorem tyX3_ok : ∀ k, k < 1 → parseFieldDescriptor (TX3 k).2.2.1 = some (tyX3 k) := by decide +kernel
abbrev cX3_init : ByteArray := prog_5_method_1_code
def yX3_init : MethodName := ⟨RX3, "<init>", "()V"⟩
abbrev cX3_read : ByteArray := prog_5_method_2_code
def yX3_read : MethodName := ⟨RX3, "read", "(LEnemyByLot$Line;LEnemyByLot$Folk;)I"⟩
abbrev cX3_widthOf : ByteArray := prog_5_method_3_code
def yX3_widthOf : MethodName := ⟨RX3, "widthOf", "(I)I"⟩
abbrev cX3_readItem : ByteArray := prog_5_method_4_code
def yX3_readItem : MethodName := ⟨RX3, "readItem", "(LEnemyByLot$Line;ILEnemyByLot$Folk;)I"⟩
abbrev cX3_readPerson : ByteArray := prog_5_method_5_code
def yX3_readPerson : MethodName := ⟨RX3, "readPerson", "(LEnemyByLot$Line;ILEnemyByLot$Folk;)I"⟩
abbrev cX3_readLove : ByteArray := prog_5_method_6_code
def yX3_readLove : MethodName := ⟨RX3, "readLove", "(LEnemyByLot$Line;ILEnemyByLot$Folk;)I"⟩
abbrev cX3_faultOfFoes : ByteArray := prog_5_method_7_code
def yX3_faultOfFoes : MethodName := ⟨RX3, "faultOfFoes", "(LEnemyByLot$Folk;)I"⟩
abbrev cX3_kindBy : ByteArray := prog_5_method_8_code
def yX3_kindBy : MethodName := ⟨RX3, "kindBy", "(I)I"⟩
abbrev cX3_figure : ByteArray := prog_5_method_9_code
def yX3_figure : MethodName := ⟨RX3, "figure", "(LEnemyByLot$Line;III)I"⟩
def RX4 : String := "EnemyByLot$Town"
def TX4 : u_T := fun k => match k with
  | 0 => ("EnemyByLot$Town", "victims", "[I", true)
  | 1 => ("EnemyByLot$Town", "deeds", "[I", true)
  | 2 => ("EnemyByLot$Town", "fines", "[I", true)
  | 3 => ("EnemyByLot$Town", "turns", "I", false)
  | _ => ("EnemyByLot$Town", "kept", "Z", false)
def tyX4 : Nat → FieldType := fun k => match k with
  | 0 => .array .int
  | 1 => .array .int
  | 2 => .array .int
  | 3 => .int
  | _ => .boolean
abbrev wsX40 : List Cond := u_ws RX4 TX4 5
theorem nmX4 : ∀ a, a < 5 → ∀ b, b < 5 → a ≠ b → (TX4 a).2.1 ≠ (TX4 b).2.1 := by decide +kernel
theorem tyX4_ok : ∀ k, k < 5 → parseFieldDescriptor (TX4 k).2.2.1 = some (tyX4 k) := by decide +kernel
abbrev cX4_init : ByteArray := prog_6_method_1_code
def yX4_init : MethodName := ⟨RX4, "<init>", "()V"⟩
abbrev cX4_begin : ByteArray := prog_6_method_2_code
def yX4_begin : MethodName := ⟨RX4, "begin", "(LEnemyByLot$Folk;)V"⟩
abbrev cX4_beginTurn : ByteArray := prog_6_method_3_code
def yX4_beginTurn : MethodName := ⟨RX4, "beginTurn", "()Z"⟩
abbrev cX4_backTo : ByteArray := prog_6_method_4_code
def yX4_backTo : MethodName := ⟨RX4, "backTo", "(I)I"⟩
abbrev cX4_take : ByteArray := prog_6_method_5_code
def yX4_take : MethodName := ⟨RX4, "take", "(LEnemyByLot$Town;)V"⟩
abbrev cX4_slot : ByteArray := prog_6_method_6_code
def yX4_slot : MethodName := ⟨RX4, "slot", "(I)I"⟩
abbrev cX4_victimOf : ByteArray := prog_6_method_7_code
def yX4_victimOf : MethodName := ⟨RX4, "victimOf", "(I)I"⟩
abbrev cX4_deedsOf : ByteArray := prog_6_method_8_code
def yX4_deedsOf : MethodName := ⟨RX4, "deedsOf", "(I)I"⟩
abbrev cX4_finesOf : ByteArray := prog_6_method_9_code
def yX4_finesOf : MethodName := ⟨RX4, "finesOf", "(I)I"⟩
abbrev cX4_setVictim : ByteArray := prog_6_method_10_code
def yX4_setVictim : MethodName := ⟨RX4, "setVictim", "(II)V"⟩
abbrev cX4_setDeeds : ByteArray := prog_6_method_11_code
def yX4_setDeeds : MethodName := ⟨RX4, "setDeeds", "(II)V"⟩
abbrev cX4_fine : ByteArray := prog_6_method_12_code
def yX4_fine : MethodName := ⟨RX4, "fine", "(I)V"⟩
abbrev cX4_foeOf : ByteArray := prog_6_method_13_code
def yX4_foeOf : MethodName := ⟨RX4, "foeOf", "(I)I"⟩
abbrev cX4_victimSet : ByteArray := prog_6_method_14_code
def yX4_victimSet : MethodName := ⟨RX4, "victimSet", "()I"⟩
def RX5 : String := "EnemyByLot"
def TX5 : u_T := fun k => match k with
  | 0 => ("EnemyByLot", "rows", "[LEnemyByLot$Line;", true)
  | 1 => ("EnemyByLot", "texts", "[LEnemyByLot$Line;", true)
  | 2 => ("EnemyByLot", "reader", "LEnemyByLot$Reader;", true)
  | 3 => ("EnemyByLot", "now", "LEnemyByLot$Town;", true)
  | 4 => ("EnemyByLot", "shelves", "[LEnemyByLot$Town;", true)
  | 5 => ("EnemyByLot", "atlas", "LEnemyByLot$Atlas;", true)
  | 6 => ("EnemyByLot", "acts", "[I", true)
  | 7 => ("EnemyByLot", "found", "[I", true)
  | 8 => ("EnemyByLot", "folk", "LEnemyByLot$Folk;", false)
  | 9 => ("EnemyByLot", "draft", "LEnemyByLot$Folk;", false)
  | 10 => ("EnemyByLot", "latestFinding", "I", false)
  | 11 => ("EnemyByLot", "told", "I", false)
  | 12 => ("EnemyByLot", "above", "J", false)
  | _ => ("EnemyByLot", "below", "J", false)
def tyX5 : Nat → FieldType := fun k => match k with
  | 0 => .array (.object "EnemyByLot$Line")
  | 1 => .array (.object "EnemyByLot$Line")
  | 2 => .object "EnemyByLot$Reader"
  | 3 => .object "EnemyByLot$Town"
  | 4 => .array (.object "EnemyByLot$Town")
  | 5 => .object "EnemyByLot$Atlas"
  | 6 => .array .int
  | 7 => .array .int
  | 8 => .object "EnemyByLot$Folk"
  | 9 => .object "EnemyByLot$Folk"
  | 10 => .int
  | 11 => .int
  | 12 => .long
  | _ => .long
abbrev wsX50 : List Cond := u_ws RX5 TX5 14
theorem nmX5 : ∀ a, a < 14 → ∀ b, b < 14 → a ≠ b → (TX5 a).2.1 ≠ (TX5 b).2.1 := by decide +kernel
theorem tyX5_ok : ∀ k, k < 14 → parseFieldDescriptor (TX5 k).2.2.1 = some (tyX5 k) := by decide +kernel
abbrev cX5_init : ByteArray := prog_1_method_1_code
def yX5_init : MethodName := ⟨RX5, "<init>", "()V"⟩
abbrev cX5_row : ByteArray := prog_1_method_2_code
def yX5_row : MethodName := ⟨RX5, "row", "(II)I"⟩
abbrev cX5_lay : ByteArray := prog_1_method_3_code
def yX5_lay : MethodName := ⟨RX5, "lay", "(III)I"⟩
abbrev cX5_at : ByteArray := prog_1_method_4_code
def yX5_at : MethodName := ⟨RX5, "at", "(II)I"⟩
abbrev cX5_tear : ByteArray := prog_1_method_5_code
def yX5_tear : MethodName := ⟨RX5, "tear", "(I)I"⟩
abbrev cX5_copy : ByteArray := prog_1_method_6_code
def yX5_copy : MethodName := ⟨RX5, "copy", "(IIIII)I"⟩
abbrev cX5_mean : ByteArray := prog_1_method_7_code
def yX5_mean : MethodName := ⟨RX5, "mean", "(I)I"⟩
abbrev cX5_text : ByteArray := prog_1_method_8_code
def yX5_text : MethodName := ⟨RX5, "text", "(II)I"⟩
abbrev cX5_put : ByteArray := prog_1_method_9_code
def yX5_put : MethodName := ⟨RX5, "put", "(III)I"⟩
abbrev cX5_fault : ByteArray := prog_1_method_10_code
def yX5_fault : MethodName := ⟨RX5, "fault", "(I)I"⟩
abbrev cX5_town : ByteArray := prog_1_method_11_code
def yX5_town : MethodName := ⟨RX5, "town", "(I)I"⟩
abbrev cX5_person : ByteArray := prog_1_method_12_code
def yX5_person : MethodName := ⟨RX5, "person", "(II)I"⟩
abbrev cX5_mark : ByteArray := prog_1_method_13_code
def yX5_mark : MethodName := ⟨RX5, "mark", "(II)I"⟩
abbrev cX5_strength : ByteArray := prog_1_method_14_code
def yX5_strength : MethodName := ⟨RX5, "strength", "(II)I"⟩
abbrev cX5_week : ByteArray := prog_1_method_15_code
def yX5_week : MethodName := ⟨RX5, "week", "(I)I"⟩
abbrev cX5_exchange : ByteArray := prog_1_method_16_code
def yX5_exchange : MethodName := ⟨RX5, "exchange", "(II)I"⟩
abbrev cX5_undo : ByteArray := prog_1_method_17_code
def yX5_undo : MethodName := ⟨RX5, "undo", "(I)I"⟩
abbrev cX5_keep : ByteArray := prog_1_method_18_code
def yX5_keep : MethodName := ⟨RX5, "keep", "(I)I"⟩
abbrev cX5_on : ByteArray := prog_1_method_19_code
def yX5_on : MethodName := ⟨RX5, "on", "(I)I"⟩
abbrev cX5_rings : ByteArray := prog_1_method_20_code
def yX5_rings : MethodName := ⟨RX5, "rings", "()I"⟩
abbrev cX5_allies : ByteArray := prog_1_method_21_code
def yX5_allies : MethodName := ⟨RX5, "allies", "(I)I"⟩
abbrev cX5_safe : ByteArray := prog_1_method_22_code
def yX5_safe : MethodName := ⟨RX5, "safe", "()I"⟩
abbrev cX5_weeks : ByteArray := prog_1_method_23_code
def yX5_weeks : MethodName := ⟨RX5, "weeks", "(II)I"⟩
abbrev cX5_thwart : ByteArray := prog_1_method_24_code
def yX5_thwart : MethodName := ⟨RX5, "thwart", "(II)I"⟩
abbrev cX5_ways : ByteArray := prog_1_method_25_code
def yX5_ways : MethodName := ⟨RX5, "ways", "(II)I"⟩
abbrev cX5_wishes : ByteArray := prog_1_method_26_code
def yX5_wishes : MethodName := ⟨RX5, "wishes", "()I"⟩
abbrev cX5_mildest : ByteArray := prog_1_method_27_code
def yX5_mildest : MethodName := ⟨RX5, "mildest", "(I)I"⟩
abbrev cX5_none : ByteArray := prog_1_method_28_code
def yX5_none : MethodName := ⟨RX5, "none", "(I)I"⟩
abbrev cX5_maps : ByteArray := prog_1_method_29_code
def yX5_maps : MethodName := ⟨RX5, "maps", "()I"⟩
abbrev cX5_odds : ByteArray := prog_1_method_30_code
def yX5_odds : MethodName := ⟨RX5, "odds", "(II)I"⟩
abbrev cX5_both : ByteArray := prog_1_method_31_code
def yX5_both : MethodName := ⟨RX5, "both", "(II)I"⟩
abbrev cX5_fits : ByteArray := prog_1_method_32_code
def yX5_fits : MethodName := ⟨RX5, "fits", "(I)I"⟩
abbrev cX5_sure : ByteArray := prog_1_method_33_code
def yX5_sure : MethodName := ⟨RX5, "sure", "(II)I"⟩
abbrev cX5_ask : ByteArray := prog_1_method_34_code
def yX5_ask : MethodName := ⟨RX5, "ask", "(I)I"⟩
abbrev cX5_lots : ByteArray := prog_1_method_35_code
def yX5_lots : MethodName := ⟨RX5, "lots", "(II)I"⟩
abbrev cX5_asked : ByteArray := prog_1_method_36_code
def yX5_asked : MethodName := ⟨RX5, "asked", "()I"⟩
abbrev cX5_upper : ByteArray := prog_1_method_37_code
def yX5_upper : MethodName := ⟨RX5, "upper", "()J"⟩
abbrev cX5_lower : ByteArray := prog_1_method_38_code
def yX5_lower : MethodName := ⟨RX5, "lower", "()J"⟩
abbrev cX5_count : ByteArray := prog_1_method_39_code
def yX5_count : MethodName := ⟨RX5, "count", "(I)I"⟩
abbrev cX5_finding : ByteArray := prog_1_method_40_code
def yX5_finding : MethodName := ⟨RX5, "finding", "()I"⟩
abbrev cX5_findings : ByteArray := prog_1_method_41_code
def yX5_findings : MethodName := ⟨RX5, "findings", "(I)I"⟩
abbrev cX5_digest : ByteArray := prog_1_method_42_code
def yX5_digest : MethodName := ⟨RX5, "digest", "()J"⟩
abbrev cX5_find : ByteArray := prog_1_method_43_code
def yX5_find : MethodName := ⟨RX5, "find", "(I)I"⟩
abbrev cX5_lineAt : ByteArray := prog_1_method_44_code
def yX5_lineAt : MethodName := ⟨RX5, "lineAt", "([LEnemyByLot$Line;I)LEnemyByLot$Line;"⟩
abbrev cX5_shelfAt : ByteArray := prog_1_method_45_code
def yX5_shelfAt : MethodName := ⟨RX5, "shelfAt", "(I)LEnemyByLot$Town;"⟩
abbrev cX5_refusePlace : ByteArray := prog_1_method_46_code
def yX5_refusePlace : MethodName := ⟨RX5, "refusePlace", "(LEnemyByLot$Line;I)I"⟩
abbrev cX5_refuseRow : ByteArray := prog_1_method_47_code
def yX5_refuseRow : MethodName := ⟨RX5, "refuseRow", "(LEnemyByLot$Line;)I"⟩
abbrev cX5_refuseFolkRow : ByteArray := prog_1_method_48_code
def yX5_refuseFolkRow : MethodName := ⟨RX5, "refuseFolkRow", "(LEnemyByLot$Line;)I"⟩
abbrev cX5_refuseDraw : ByteArray := prog_1_method_49_code
def yX5_refuseDraw : MethodName := ⟨RX5, "refuseDraw", "(II)I"⟩
abbrev cX5_refuseWeeks : ByteArray := prog_1_method_50_code
def yX5_refuseWeeks : MethodName := ⟨RX5, "refuseWeeks", "(LEnemyByLot$Line;)I"⟩
abbrev cX5_refuseFits : ByteArray := prog_1_method_51_code
def yX5_refuseFits : MethodName := ⟨RX5, "refuseFits", "(LEnemyByLot$Line;)I"⟩
abbrev cX5_isIn : ByteArray := prog_1_method_52_code
def yX5_isIn : MethodName := ⟨RX5, "isIn", "(II)Z"⟩
abbrev cX5_isPair : ByteArray := prog_1_method_53_code
def yX5_isPair : MethodName := ⟨RX5, "isPair", "(II)Z"⟩
abbrev cX5_isAct : ByteArray := prog_1_method_54_code
def yX5_isAct : MethodName := ⟨RX5, "isAct", "(II)Z"⟩
abbrev cX5_isMapOfNow : ByteArray := prog_1_method_55_code
def yX5_isMapOfNow : MethodName := ⟨RX5, "isMapOfNow", "(LEnemyByLot$Line;)Z"⟩
abbrev cX5_trait : ByteArray := prog_1_method_56_code
def yX5_trait : MethodName := ⟨RX5, "trait", "(II)I"⟩
abbrev cX5_hasReached : ByteArray := prog_1_method_57_code
def yX5_hasReached : MethodName := ⟨RX5, "hasReached", "(I)Z"⟩
abbrev cX5_reachedSet : ByteArray := prog_1_method_58_code
def yX5_reachedSet : MethodName := ⟨RX5, "reachedSet", "()I"⟩
abbrev cX5_owesDuty : ByteArray := prog_1_method_59_code
def yX5_owesDuty : MethodName := ⟨RX5, "owesDuty", "(I)Z"⟩
abbrev cX5_calmedBy : ByteArray := prog_1_method_60_code
def yX5_calmedBy : MethodName := ⟨RX5, "calmedBy", "(I)I"⟩
abbrev cX5_weeksForNine : ByteArray := prog_1_method_61_code
def yX5_weeksForNine : MethodName := ⟨RX5, "weeksForNine", "(I)I"⟩
abbrev cX5_lossOf : ByteArray := prog_1_method_62_code
def yX5_lossOf : MethodName := ⟨RX5, "lossOf", "(I)I"⟩
abbrev cX5_passWeek : ByteArray := prog_1_method_63_code
def yX5_passWeek : MethodName := ⟨RX5, "passWeek", "()I"⟩
abbrev cX5_fineIdle : ByteArray := prog_1_method_64_code
def yX5_fineIdle : MethodName := ⟨RX5, "fineIdle", "()V"⟩
abbrev cX5_actByLot : ByteArray := prog_1_method_65_code
def yX5_actByLot : MethodName := ⟨RX5, "actByLot", "(IJ)I"⟩
abbrev cX5_ringOf : ByteArray := prog_1_method_66_code
def yX5_ringOf : MethodName := ⟨RX5, "ringOf", "(I)I"⟩
abbrev cX5_fewestWeeks : ByteArray := prog_1_method_67_code
def yX5_fewestWeeks : MethodName := ⟨RX5, "fewestWeeks", "(II)I"⟩
abbrev cX5_reachesThrough : ByteArray := prog_1_method_68_code
def yX5_reachesThrough : MethodName := ⟨RX5, "reachesThrough", "(III)Z"⟩
abbrev cX5_afterWeek : ByteArray := prog_1_method_69_code
def yX5_afterWeek : MethodName := ⟨RX5, "afterWeek", "(II)I"⟩
abbrev cX5_isWish : ByteArray := prog_1_method_70_code
def yX5_isWish : MethodName := ⟨RX5, "isWish", "(II)Z"⟩
abbrev cX5_strengthsIn : ByteArray := prog_1_method_71_code
def yX5_strengthsIn : MethodName := ⟨RX5, "strengthsIn", "(I)I"⟩
abbrev cX5_tell : ByteArray := prog_1_method_72_code
def yX5_tell : MethodName := ⟨RX5, "tell", "(JJ)I"⟩
abbrev cX5_commonDivisor : ByteArray := prog_1_method_73_code
def yX5_commonDivisor : MethodName := ⟨RX5, "commonDivisor", "(JJ)J"⟩
abbrev cX5_seekFits : ByteArray := prog_1_method_74_code
def yX5_seekFits : MethodName := ⟨RX5, "seekFits", "(LEnemyByLot$Line;)V"⟩
abbrev cX5_allFines : ByteArray := prog_1_method_75_code
def yX5_allFines : MethodName := ⟨RX5, "allFines", "()I"⟩
abbrev cX5_zealots : ByteArray := prog_1_method_76_code
def yX5_zealots : MethodName := ⟨RX5, "zealots", "()I"⟩
abbrev cX5_present : ByteArray := prog_1_method_77_code
def yX5_present : MethodName := ⟨RX5, "present", "([LEnemyByLot$Line;)I"⟩
abbrev cX5_keptTowns : ByteArray := prog_1_method_78_code
def yX5_keptTowns : MethodName := ⟨RX5, "keptTowns", "()I"⟩
def RX6 : String := "EnemyByLotModel"
def TX6 : u_T := fun k => match k with
  | 0 => ("EnemyByLotModel", "row", "[I", true)
  | 1 => ("EnemyByLotModel", "persons", "I", false)
  | 2 => ("EnemyByLotModel", "kinds", "[I", true)
  | 3 => ("EnemyByLotModel", "aims", "[I", true)
  | 4 => ("EnemyByLotModel", "zeals", "[I", true)
  | 5 => ("EnemyByLotModel", "loves", "[I", true)
  | 6 => ("EnemyByLotModel", "loveMany", "I", false)
  | 7 => ("EnemyByLotModel", "sizes", "[I", true)
  | 8 => ("EnemyByLotModel", "items", "[I", true)
  | 9 => ("EnemyByLotModel", "lengths", "[I", true)
  | 10 => ("EnemyByLotModel", "bytes", "[I", true)
  | 11 => ("EnemyByLotModel", "asked", "I", false)
  | 12 => ("EnemyByLotModel", "upper", "J", false)
  | 13 => ("EnemyByLotModel", "lower", "J", false)
  | 14 => ("EnemyByLotModel", "finding", "I", false)
  | 15 => ("EnemyByLotModel", "findings", "[I", true)
  | 16 => ("EnemyByLotModel", "from", "I", false)
  | 17 => ("EnemyByLotModel", "place", "I", false)
  | 18 => ("EnemyByLotModel", "end", "I", false)
  | 19 => ("EnemyByLotModel", "readPersons", "[I", true)
  | 20 => ("EnemyByLotModel", "readMany", "I", false)
  | 21 => ("EnemyByLotModel", "readLoves", "[I", true)
  | 22 => ("EnemyByLotModel", "readLoveMany", "I", false)
  | 23 => ("EnemyByLotModel", "does", "[I", true)
  | 24 => ("EnemyByLotModel", "tried", "[I", true)
  | 25 => ("EnemyByLotModel", "maps", "[I", true)
  | 26 => ("EnemyByLotModel", "mapMany", "I", false)
  | _ => ("EnemyByLotModel", "left", "[I", true)
def tyX6 : Nat → FieldType := fun k => match k with
  | 0 => .array .int
  | 1 => .int
  | 2 => .array .int
  | 3 => .array .int
  | 4 => .array .int
  | 5 => .array .int
  | 6 => .int
  | 7 => .array .int
  | 8 => .array .int
  | 9 => .array .int
  | 10 => .array .int
  | 11 => .int
  | 12 => .long
  | 13 => .long
  | 14 => .int
  | 15 => .array .int
  | 16 => .int
  | 17 => .int
  | 18 => .int
  | 19 => .array .int
  | 20 => .int
  | 21 => .array .int
  | 22 => .int
  | 23 => .array .int
  | 24 => .array .int
  | 25 => .array .int
  | 26 => .int
  | _ => .array .int
abbrev wsX60 : List Cond := u_ws RX6 TX6 28
theorem nmX6 : ∀ a, a < 28 → ∀ b, b < 28 → a ≠ b → (TX6 a).2.1 ≠ (TX6 b).2.1 := by decide +kernel
theorem tyX6_ok : ∀ k, k < 28 → parseFieldDescriptor (TX6 k).2.2.1 = some (tyX6 k) := by decide +kernel
abbrev cX6_init : ByteArray := prog_8_method_1_code
def yX6_init : MethodName := ⟨RX6, "<init>", "()V"⟩
abbrev cX6_bits : ByteArray := prog_8_method_2_code
def yX6_bits : MethodName := ⟨RX6, "bits", "(I)I"⟩
abbrev cX6_in : ByteArray := prog_8_method_3_code
def yX6_in : MethodName := ⟨RX6, "in", "(JJJ)Z"⟩
abbrev cX6_has : ByteArray := prog_8_method_4_code
def yX6_has : MethodName := ⟨RX6, "has", "(II)Z"⟩
abbrev cX6_find : ByteArray := prog_8_method_5_code
def yX6_find : MethodName := ⟨RX6, "find", "(I)I"⟩
abbrev cX6_tell : ByteArray := prog_8_method_6_code
def yX6_tell : MethodName := ⟨RX6, "tell", "(I)I"⟩
abbrev cX6_isRow : ByteArray := prog_8_method_7_code
def yX6_isRow : MethodName := ⟨RX6, "isRow", "(I)Z"⟩
abbrev cX6_isText : ByteArray := prog_8_method_8_code
def yX6_isText : MethodName := ⟨RX6, "isText", "(I)Z"⟩
abbrev cX6_row : ByteArray := prog_8_method_9_code
def yX6_row : MethodName := ⟨RX6, "row", "(II)I"⟩
abbrev cX6_makeRow : ByteArray := prog_8_method_10_code
def yX6_makeRow : MethodName := ⟨RX6, "makeRow", "(II)V"⟩
abbrev cX6_refused : ByteArray := prog_8_method_11_code
def yX6_refused : MethodName := ⟨RX6, "refused", "(II)I"⟩
abbrev cX6_lay : ByteArray := prog_8_method_12_code
def yX6_lay : MethodName := ⟨RX6, "lay", "(III)I"⟩
abbrev cX6_at : ByteArray := prog_8_method_13_code
def yX6_at : MethodName := ⟨RX6, "at", "(II)I"⟩
abbrev cX6_tear : ByteArray := prog_8_method_14_code
def yX6_tear : MethodName := ⟨RX6, "tear", "(I)I"⟩
abbrev cX6_isSpan : ByteArray := prog_8_method_15_code
def yX6_isSpan : MethodName := ⟨RX6, "isSpan", "(III)Z"⟩
abbrev cX6_copy : ByteArray := prog_8_method_16_code
def yX6_copy : MethodName := ⟨RX6, "copy", "(IIIII)I"⟩
abbrev cX6_mean : ByteArray := prog_8_method_17_code
def yX6_mean : MethodName := ⟨RX6, "mean", "(I)I"⟩
abbrev cX6_text : ByteArray := prog_8_method_18_code
def yX6_text : MethodName := ⟨RX6, "text", "(II)I"⟩
abbrev cX6_put : ByteArray := prog_8_method_19_code
def yX6_put : MethodName := ⟨RX6, "put", "(III)I"⟩
abbrev cX6_here : ByteArray := prog_8_method_20_code
def yX6_here : MethodName := ⟨RX6, "here", "()I"⟩
abbrev cX6_skip : ByteArray := prog_8_method_21_code
def yX6_skip : MethodName := ⟨RX6, "skip", "()V"⟩
abbrev cX6_figure : ByteArray := prog_8_method_22_code
def yX6_figure : MethodName := ⟨RX6, "figure", "(II)I"⟩
abbrev cX6_kindOfLetter : ByteArray := prog_8_method_23_code
def yX6_kindOfLetter : MethodName := ⟨RX6, "kindOfLetter", "(I)I"⟩
abbrev cX6_readsPerson : ByteArray := prog_8_method_24_code
def yX6_readsPerson : MethodName := ⟨RX6, "readsPerson", "()Z"⟩
abbrev cX6_readsLove : ByteArray := prog_8_method_25_code
def yX6_readsLove : MethodName := ⟨RX6, "readsLove", "()Z"⟩
abbrev cX6_areVictims : ByteArray := prog_8_method_26_code
def yX6_areVictims : MethodName := ⟨RX6, "areVictims", "()Z"⟩
abbrev cX6_faultOf : ByteArray := prog_8_method_27_code
def yX6_faultOf : MethodName := ⟨RX6, "faultOf", "(I)I"⟩
abbrev cX6_fault : ByteArray := prog_8_method_28_code
def yX6_fault : MethodName := ⟨RX6, "fault", "(I)I"⟩
abbrev cX6_town : ByteArray := prog_8_method_29_code
def yX6_town : MethodName := ⟨RX6, "town", "(I)I"⟩
abbrev cX6_isPerson : ByteArray := prog_8_method_30_code
def yX6_isPerson : MethodName := ⟨RX6, "isPerson", "(I)Z"⟩
abbrev cX6_areTwo : ByteArray := prog_8_method_31_code
def yX6_areTwo : MethodName := ⟨RX6, "areTwo", "(II)Z"⟩
abbrev cX6_victim : ByteArray := prog_8_method_32_code
def yX6_victim : MethodName := ⟨RX6, "victim", "(I)I"⟩
abbrev cX6_foe : ByteArray := prog_8_method_33_code
def yX6_foe : MethodName := ⟨RX6, "foe", "(I)I"⟩
abbrev cX6_isReached : ByteArray := prog_8_method_34_code
def yX6_isReached : MethodName := ⟨RX6, "isReached", "(I)Z"⟩
abbrev cX6_plain : ByteArray := prog_8_method_35_code
def yX6_plain : MethodName := ⟨RX6, "plain", "(I)I"⟩
abbrev cX6_strengthOf : ByteArray := prog_8_method_36_code
def yX6_strengthOf : MethodName := ⟨RX6, "strengthOf", "(II)I"⟩
abbrev cX6_against : ByteArray := prog_8_method_37_code
def yX6_against : MethodName := ⟨RX6, "against", "(I)I"⟩
abbrev cX6_toldOf : ByteArray := prog_8_method_38_code
def yX6_toldOf : MethodName := ⟨RX6, "toldOf", "(II)I"⟩
abbrev cX6_person : ByteArray := prog_8_method_39_code
def yX6_person : MethodName := ⟨RX6, "person", "(II)I"⟩
abbrev cX6_isOf : ByteArray := prog_8_method_40_code
def yX6_isOf : MethodName := ⟨RX6, "isOf", "(II)Z"⟩
abbrev cX6_saved : ByteArray := prog_8_method_41_code
def yX6_saved : MethodName := ⟨RX6, "saved", "(I)I"⟩
abbrev cX6_owes : ByteArray := prog_8_method_42_code
def yX6_owes : MethodName := ⟨RX6, "owes", "(II)Z"⟩
abbrev cX6_weeksForNine : ByteArray := prog_8_method_43_code
def yX6_weeksForNine : MethodName := ⟨RX6, "weeksForNine", "(I)I"⟩
abbrev cX6_mark : ByteArray := prog_8_method_44_code
def yX6_mark : MethodName := ⟨RX6, "mark", "(II)I"⟩
abbrev cX6_strength : ByteArray := prog_8_method_45_code
def yX6_strength : MethodName := ⟨RX6, "strength", "(II)I"⟩
abbrev cX6_keepPast : ByteArray := prog_8_method_46_code
def yX6_keepPast : MethodName := ⟨RX6, "keepPast", "()V"⟩
abbrev cX6_pass : ByteArray := prog_8_method_47_code
def yX6_pass : MethodName := ⟨RX6, "pass", "()I"⟩
abbrev cX6_isWeek : ByteArray := prog_8_method_48_code
def yX6_isWeek : MethodName := ⟨RX6, "isWeek", "(I)Z"⟩
abbrev cX6_week : ByteArray := prog_8_method_49_code
def yX6_week : MethodName := ⟨RX6, "week", "(I)I"⟩
abbrev cX6_exchange : ByteArray := prog_8_method_50_code
def yX6_exchange : MethodName := ⟨RX6, "exchange", "(II)I"⟩
abbrev cX6_change : ByteArray := prog_8_method_51_code
def yX6_change : MethodName := ⟨RX6, "change", "(II)V"⟩
abbrev cX6_undo : ByteArray := prog_8_method_52_code
def yX6_undo : MethodName := ⟨RX6, "undo", "(I)I"⟩
abbrev cX6_copyTown : ByteArray := prog_8_method_53_code
def yX6_copyTown : MethodName := ⟨RX6, "copyTown", "(II)V"⟩
abbrev cX6_keep : ByteArray := prog_8_method_54_code
def yX6_keep : MethodName := ⟨RX6, "keep", "(I)I"⟩
abbrev cX6_on : ByteArray := prog_8_method_55_code
def yX6_on : MethodName := ⟨RX6, "on", "(I)I"⟩
abbrev cX6_ringOf : ByteArray := prog_8_method_56_code
def yX6_ringOf : MethodName := ⟨RX6, "ringOf", "(I)I"⟩
abbrev cX6_rings : ByteArray := prog_8_method_57_code
def yX6_rings : MethodName := ⟨RX6, "rings", "()I"⟩
abbrev cX6_allies : ByteArray := prog_8_method_58_code
def yX6_allies : MethodName := ⟨RX6, "allies", "(I)I"⟩
abbrev cX6_safe : ByteArray := prog_8_method_59_code
def yX6_safe : MethodName := ⟨RX6, "safe", "()I"⟩
abbrev cX6_weeksOf : ByteArray := prog_8_method_60_code
def yX6_weeksOf : MethodName := ⟨RX6, "weeksOf", "(III)I"⟩
abbrev cX6_weeks : ByteArray := prog_8_method_61_code
def yX6_weeks : MethodName := ⟨RX6, "weeks", "(II)I"⟩
abbrev cX6_thwart : ByteArray := prog_8_method_62_code
def yX6_thwart : MethodName := ⟨RX6, "thwart", "(II)I"⟩
abbrev cX6_isReachedBy : ByteArray := prog_8_method_63_code
def yX6_isReachedBy : MethodName := ⟨RX6, "isReachedBy", "(III)Z"⟩
abbrev cX6_ways : ByteArray := prog_8_method_64_code
def yX6_ways : MethodName := ⟨RX6, "ways", "(II)I"⟩
abbrev cX6_wish : ByteArray := prog_8_method_65_code
def yX6_wish : MethodName := ⟨RX6, "wish", "(II)Z"⟩
abbrev cX6_wishes : ByteArray := prog_8_method_66_code
def yX6_wishes : MethodName := ⟨RX6, "wishes", "()I"⟩
abbrev cX6_victimsNow : ByteArray := prog_8_method_67_code
def yX6_victimsNow : MethodName := ⟨RX6, "victimsNow", "()I"⟩
abbrev cX6_leftOf : ByteArray := prog_8_method_68_code
def yX6_leftOf : MethodName := ⟨RX6, "leftOf", "(I)I"⟩
abbrev cX6_nextTried : ByteArray := prog_8_method_69_code
def yX6_nextTried : MethodName := ⟨RX6, "nextTried", "()Z"⟩
abbrev cX6_strengthsTried : ByteArray := prog_8_method_70_code
def yX6_strengthsTried : MethodName := ⟨RX6, "strengthsTried", "()I"⟩
abbrev cX6_mildest : ByteArray := prog_8_method_71_code
def yX6_mildest : MethodName := ⟨RX6, "mildest", "(I)I"⟩
abbrev cX6_isMap : ByteArray := prog_8_method_72_code
def yX6_isMap : MethodName := ⟨RX6, "isMap", "(I)Z"⟩
abbrev cX6_none : ByteArray := prog_8_method_73_code
def yX6_none : MethodName := ⟨RX6, "none", "(I)I"⟩
abbrev cX6_of : ByteArray := prog_8_method_74_code
def yX6_of : MethodName := ⟨RX6, "of", "(II)I"⟩
abbrev cX6_layMaps : ByteArray := prog_8_method_75_code
def yX6_layMaps : MethodName := ⟨RX6, "layMaps", "(Z)V"⟩
abbrev cX6_tellParts : ByteArray := prog_8_method_76_code
def yX6_tellParts : MethodName := ⟨RX6, "tellParts", "(JJ)I"⟩
abbrev cX6_tellMany : ByteArray := prog_8_method_77_code
def yX6_tellMany : MethodName := ⟨RX6, "tellMany", "(I)I"⟩
abbrev cX6_maps : ByteArray := prog_8_method_78_code
def yX6_maps : MethodName := ⟨RX6, "maps", "()I"⟩
abbrev cX6_odds : ByteArray := prog_8_method_79_code
def yX6_odds : MethodName := ⟨RX6, "odds", "(II)I"⟩
abbrev cX6_both : ByteArray := prog_8_method_80_code
def yX6_both : MethodName := ⟨RX6, "both", "(II)I"⟩
abbrev cX6_victimsOf : ByteArray := prog_8_method_81_code
def yX6_victimsOf : MethodName := ⟨RX6, "victimsOf", "(II)I"⟩
abbrev cX6_layFits : ByteArray := prog_8_method_82_code
def yX6_layFits : MethodName := ⟨RX6, "layFits", "(I)I"⟩
abbrev cX6_fits : ByteArray := prog_8_method_83_code
def yX6_fits : MethodName := ⟨RX6, "fits", "(I)I"⟩
abbrev cX6_sure : ByteArray := prog_8_method_84_code
def yX6_sure : MethodName := ⟨RX6, "sure", "(II)I"⟩
abbrev cX6_mostLeft : ByteArray := prog_8_method_85_code
def yX6_mostLeft : MethodName := ⟨RX6, "mostLeft", "(I)I"⟩
abbrev cX6_ask : ByteArray := prog_8_method_86_code
def yX6_ask : MethodName := ⟨RX6, "ask", "(I)I"⟩
abbrev cX6_lots : ByteArray := prog_8_method_87_code
def yX6_lots : MethodName := ⟨RX6, "lots", "(II)I"⟩
abbrev cX6_asked : ByteArray := prog_8_method_88_code
def yX6_asked : MethodName := ⟨RX6, "asked", "()I"⟩
abbrev cX6_upper : ByteArray := prog_8_method_89_code
def yX6_upper : MethodName := ⟨RX6, "upper", "()J"⟩
abbrev cX6_lower : ByteArray := prog_8_method_90_code
def yX6_lower : MethodName := ⟨RX6, "lower", "()J"⟩
abbrev cX6_sumFrom : ByteArray := prog_8_method_91_code
def yX6_sumFrom : MethodName := ⟨RX6, "sumFrom", "(I)I"⟩
abbrev cX6_zealots : ByteArray := prog_8_method_92_code
def yX6_zealots : MethodName := ⟨RX6, "zealots", "()I"⟩
abbrev cX6_thereOf : ByteArray := prog_8_method_93_code
def yX6_thereOf : MethodName := ⟨RX6, "thereOf", "(I)I"⟩
abbrev cX6_countOf : ByteArray := prog_8_method_94_code
def yX6_countOf : MethodName := ⟨RX6, "countOf", "(I)I"⟩
abbrev cX6_count : ByteArray := prog_8_method_95_code
def yX6_count : MethodName := ⟨RX6, "count", "(I)I"⟩
abbrev cX6_finding : ByteArray := prog_8_method_96_code
def yX6_finding : MethodName := ⟨RX6, "finding", "()I"⟩
abbrev cX6_findings : ByteArray := prog_8_method_97_code
def yX6_findings : MethodName := ⟨RX6, "findings", "(I)I"⟩
abbrev cX6_digest : ByteArray := prog_8_method_98_code
def yX6_digest : MethodName := ⟨RX6, "digest", "()J"⟩
def RJ6 : String := "java/lang/Integer"
def TJ6 : u_T := fun k => match k with
  | _ => ("", "", "", false)
def tyJ6 : Nat → FieldType := fun k => match k with
  | _ => .int
abbrev wsJ60 : List Cond := u_ws RJ6 TJ6 0
theorem nmJ6 : ∀ a, a < 0 → ∀ b, b < 0 → a ≠ b → (TJ6 a).2.1 ≠ (TJ6 b).2.1 := by decide +kernel
theorem tyJ6_ok : ∀ k, k < 0 → parseFieldDescriptor (TJ6 k).2.2.1 = some (tyJ6 k) := by decide +kernel
abbrev cJ6_bitCount_0f7a4 : ByteArray := prog_9_method_49_code
def yJ6_bitCount_0f7a4 : MethodName := ⟨RJ6, "bitCount", "(I)I"⟩
def RJ9 : String := "java/lang/Math"
def TJ9 : u_T := fun k => match k with
  | _ => ("", "", "", false)
def tyJ9 : Nat → FieldType := fun k => match k with
  | _ => .int
abbrev wsJ90 : List Cond := u_ws RJ9 TJ9 0
theorem nmJ9 : ∀ a, a < 0 → ∀ b, b < 0 → a ≠ b → (TJ9 a).2.1 ≠ (TJ9 b).2.1 := by decide +kernel
theorem tyJ9_ok : ∀ k, k < 0 → parseFieldDescriptor (TJ9 k).2.2.1 = some (tyJ9 k) := by decide +kernel
abbrev cJ9_max_7cf53 : ByteArray := prog_10_method_65_code
def yJ9_max_7cf53 : MethodName := ⟨RJ9, "max", "(II)I"⟩
abbrev cJ9_min_7cf53 : ByteArray := prog_10_method_69_code
def yJ9_min_7cf53 : MethodName := ⟨RJ9, "min", "(II)I"⟩
def RJ10 : String := "java/lang/System"
def TJ10 : u_T := fun k => match k with
  | _ => ("", "", "", false)
def tyJ10 : Nat → FieldType := fun k => match k with
  | _ => .int
abbrev wsJ100 : List Cond := u_ws RJ10 TJ10 0
theorem nmJ10 : ∀ a, a < 0 → ∀ b, b < 0 → a ≠ b → (TJ10 a).2.1 ≠ (TJ10 b).2.1 := by decide +kernel
theorem tyJ10_ok : ∀ k, k < 0 → parseFieldDescriptor (TJ10 k).2.2.1 = some (tyJ10 k) := by decide +kernel
def RJ7 : String := "java/util/Arrays"
def TJ7 : u_T := fun k => match k with
  | _ => ("", "", "", false)
def tyJ7 : Nat → FieldType := fun k => match k with
  | _ => .int
abbrev wsJ70 : List Cond := u_ws RJ7 TJ7 0
theorem nmJ7 : ∀ a, a < 0 → ∀ b, b < 0 → a ≠ b → (TJ7 a).2.1 ≠ (TJ7 b).2.1 := by decide +kernel
theorem tyJ7_ok : ∀ k, k < 0 → parseFieldDescriptor (TJ7 k).2.2.1 = some (tyJ7 k) := by decide +kernel
abbrev cJ7_fill_53178 : ByteArray := prog_12_method_103_code
def yJ7_fill_53178 : MethodName := ⟨RJ7, "fill", "([II)V"⟩

abbrev jj_cl : List vw_C := [(RX0, TX0, 5), (RX1, TX1, 7), (RX2, TX2, 2), (RX3, TX3, 1), (RX4, TX4, 5), (RX5, TX5, 14), (RX6, TX6, 28)]
end
section
/-! ===== the abstract heap: cells in a row, from the base address on; the judgement J over it ===== -/
abbrev AV : Type := Int32 ⊕ (Int64 ⊕ (Option Nat ⊕ Bool))
abbrev Cel : Type := List Int32 ⊕ ((Nat × List (Option Nat)) ⊕ (Nat × List AV))
abbrev AH : Type := List Cel
/-- base, the script's address, LETTERS' address, classes, array classes, the script -/
abbrev GX : Type := Nat × Nat × Nat × va_G × (ClassId × ClassId × ClassId) × Nat × (Nat → Int32)
/-- name, code, locals, answer, new cells, new slots -/
abbrev MD : Type := MethodName × ByteArray × Nat × Option FieldType × Nat × Nat
def jN (g : GX) : Nat := g.1
def jb (g : GX) : Nat := g.2.1
def jt (g : GX) : Nat := g.2.2.1
def jD (g : GX) : va_G := g.2.2.2.1
def jC (g : GX) : ClassId × ClassId × ClassId := g.2.2.2.2.1
def jL (g : GX) : Nat := g.2.2.2.2.2.1
def jX (g : GX) : Nat → Int32 := g.2.2.2.2.2.2
def jA (g : GX) : Nat → Prop := fun q => jN g ≤ q
def jcv (g : GX) : AV → Value
  | .inl x => .int x
  | .inr (.inl x) => .long x
  | .inr (.inr (.inl none)) => .null
  | .inr (.inr (.inl (some k))) => .ref (jN g + k)
  | .inr (.inr (.inr true)) => .ref (jt g)
  | .inr (.inr (.inr false)) => .ref (jb g)
def jce (g : GX) : Cel → va_E
  | .inl xs => .inl ((jC g).1, xs.length, .inl (fun j => xs.getD j 0))
  | .inr (.inl (t, rs)) => .inl (if t = 0 then (jC g).2.1 else (jC g).2.2, rs.length, .inr (.inr (.inr (.inr (fun j => (rs.getD j none).map (fun k => jN g + k))))))
  | .inr (.inr (c, fs)) => .inr (c, fs.map (jcv g))
def jw (g : GX) (ah : AH) : va_W := ah.mapIdx (fun k e => (jN g + k, jce g e))
theorem jw_get {g : GX} {ah : AH} {k : Nat} {e : Cel} (h : ah[k]? = some e) : (jw g ah)[k]? = some (jN g + k, jce g e) := by
  simp [jw, List.getElem?_mapIdx, h]
theorem jw_inv {g : GX} {ah : AH} {k : Nat} {q : Nat × va_E} (h : (jw g ah)[k]? = some q) : q.1 = jN g + k ∧ k < ah.length := by
  simp only [jw, List.getElem?_mapIdx, Option.map_eq_some_iff] at h
  obtain ⟨e, h1, h2⟩ := h
  subst h2
  exact ⟨rfl, (List.getElem?_eq_some_iff.mp h1).1⟩
theorem jw_set (g : GX) (ah : AH) (k : Nat) (e : Cel) : jw g (ah.set k e) = (jw g ah).set k (jN g + k, jce g e) := by
  apply List.ext_getElem?
  intro i
  simp only [jw, List.getElem?_mapIdx, List.getElem?_set, List.length_mapIdx]
  by_cases h : k = i
  · subst h
    by_cases h2 : k < ah.length <;> simp [h2]
  · simp [h]
theorem jw_app (g : GX) (ah : AH) (e : Cel) : jw g (ah ++ [e]) = jw g ah ++ [(jN g + ah.length, jce g e)] := by
  simp [jw, List.mapIdx_append]
theorem jw_len (g : GX) (ah : AH) : (jw g ah).length = ah.length := by simp [jw]
theorem jw_D (g : GX) (ah : AH) : va_D (jA g) (jw g ah) := by
  refine ⟨fun i j p q hi hj hpq => ?_, fun k q hk => ?_⟩
  · have h1 := (jw_inv hi).1
    have h2 := (jw_inv hj).1
    omega
  · have h1 := (jw_inv hk).1
    show jN g ≤ q.1
    omega
def jTy (g : GX) : List (ClassId × FieldType) := [((jC g).1, .int), ((jC g).2.1, .object "EnemyByLot$Line"), ((jC g).2.2, .object "EnemyByLot$Town")]
abbrev jK (g : GX) (U : State) : Prop := va_K (jD g) jj_cl (jTy g) U
def jlet (j : Nat) : Int32 := [112, 122, 115, 104, 119, 108].getD j 0
/-- what stands below the base, and the nest's words -/
def jAm (g : GX) (U : State) (H : Heap) : Prop :=
  va_X (jb g) (jL g) (jX g) U H ∧ jb g < jN g ∧ va_Z "EnemyByLot" "LETTERS" "[I" (.ref (jt g)) (jA g) U H ∧ va_T .int (jt g) 6 (fun j => .int (jlet j)) (jA g) U H ∧
  (∀ a i b n d h, Cond.fieldLinkNest a i b n d h ∈ lw_tbl → va_Nw (.fieldLinkNest a i b n d h) U) ∧ (∀ a i x h, Cond.methodLinkNest a i x h ∈ lw_tbl → va_Nw (.methodLinkNest a i x h) U) ∧ va_AO "EnemyByLot$Line" U ∧ va_AO "EnemyByLot$Town" U
def jBG : List Cond := lw_tbl.filter goodWord
theorem jBG_good {w0 : Cond} {w : Cond} (h : w ∈ jBG) : GoodIn (w0 :: jBG) (w :: jBG) := by
  have key : ∀ x ∈ jBG, x ∈ w0 :: jBG ∧ ((x.onTables && x.keeps) = true ∨ ∃ ty, x = .arrayClass ty) := fun x hx =>
    ⟨List.mem_cons_of_mem _ hx, good_of_word (List.mem_filter.mp hx).2⟩
  intro x hx
  rcases List.mem_cons.mp hx with rfl | hx
  · exact key _ h
  · exact key _ hx
theorem jBG_of {w : Cond} (n : Nat) (h : lw_tbl[n]? = some w) (hg : goodWord w = true) : w ∈ jBG := List.mem_filter.mpr ⟨List.mem_of_getElem? h, hg⟩
def jCx (g : GX) (md : MD) (p : Program) (s : State) (m : MethodId) (args : Array Value) (meth : Method) (c : Code) : Prop :=
  p.tables.exec = Jvm.exec ∧ c.code = md.2.1 ∧ meth.sig.returnType = md.2.2.2.1 ∧ c.maxLocals = md.2.2.1 ∧ s.vm.findClass md.1.cls = some m.cls ∧ (∀ w ∈ jBG, w.before args s = true) ∧ meth.locks = false ∧ meth.name = md.1.name ∧ jK g s ∧ jAm g s s.heap ∧ jN g ≤ s.heap.size
abbrev jQ : Type := List Frame → Array Value → State → State → Prop
def J (l : Launch) (g : GX) (md : MD) (R : Room) (Q : jQ) (pc : Nat) (ls : List (Nat × AV)) (st : List AV) (ah : AH) (cs : Nat × Nat) : Prop :=
  ∀ (p : Program) (e : Env) (s : State) (m : MethodId) (args : Array Value) (below : List Frame) (meth : Method) (c : Code) (H : Heap) (locs : List Loc) (la : Array Slot),
    jCx g md p s m args meth c → s.heap.size + cs.1 = jN g + ah.length → va_P (jD g) jj_cl (jw g ah) H → va_S (jA g) s.heap H locs → lv_has la md.2.2.1 (ls.map fun q => (q.1, jcv g q.2)) →
    W p l e R s m args below meth c H locs cs.1 cs.2 (Q below args s) (F0 m pc la (st.map (jcv g)))
/-- how large the heap is: by the last cell, and by the room -/
theorem jsz {p : Program} {l : Launch} {e : Env} {R : Room} {s : State} {m : MethodId} {args : Array Value} {below : List Frame} {meth : Method} {c : Code} {T : State} {H : Heap} {locs : List Loc} {cells slots : Nat} {g : GX} {ah : AH} (X : Stand p l e R s m args below meth c T locs cells slots) (hT : T.heap = H) (hz : s.heap.size + cells = jN g + ah.length) (hP : va_P (jD g) jj_cl (jw g ah) H) (hS : va_S (jA g) s.heap H locs) (hN : jN g ≤ s.heap.size) : H.size = jN g + ah.length := by
  have h1 := X.heapSize
  rw [hT] at h1
  have h2 := hS.1
  cases hn : ah.length with
  | zero => omega
  | succ n =>
    have h3 : n < (jw g ah).length := by rw [jw_len]; omega
    have h4 : (jw g ah)[n]? = some ((jw g ah)[n]) := List.getElem?_eq_getElem h3
    have h5 := (hP n _ h4).lt
    have h6 := (jw_inv h4).1
    omega
/-- the world of a state -/
def jU (g : GX) (ah : AH) (U : State) : Prop := U.heap.size = jN g + ah.length ∧ va_P (jD g) jj_cl (jw g ah) U.heap ∧ jK g U
def jQc (g : GX) (mc : Nat) (r : Option AV) (ah : AH) : Array Value → State → Outcome → State → Prop := fun _ st o t => o = .returned (r.map (jcv g)) ∧ (va_P (jD g) jj_cl (jw g ah) t.heap ∧ jK g t) ∧ va_F (jA g) st t ∧ st.heap.size + mc = jN g + ah.length
def jRm (d : Nat) (md : MD) : Room := { frames := d, cells := md.2.2.2.2.1, slots := md.2.2.2.2.2, locals := 64 * d }
def jWs (md : MD) : List Cond := Cond.code md.1 md.2.1 md.2.2.1 md.2.2.2.1 :: jBG
/-- a method's contract: from the abstract heap ah to ah', with the answer r -/
def jM (l : Launch) (g : GX) (d : Nat) (md : MD) (av : List AV) (ah : AH) (r : Option AV) (ah' : AH) : Prop :=
  Met l md.1 (jWs md) (jRm d md) (va_Pc (av.map (jcv g)) (fun U => jU g ah U ∧ jAm g U U.heap)) (jQc g md.2.2.2.2.1 r ah') md.2.2.2.2.1 md.2.2.2.2.2 (jA g)
def jQm (g : GX) (md : MD) (r : Option AV) (ah' : AH) : jQ := fun below args s => MQ below (jQc g md.2.2.2.2.1 r ah') args s md.2.2.2.2.1 md.2.2.2.2.2 (jA g)
def jlv : Nat → List AV → List (Nat × AV)
  | _, [] => []
  | k, v :: r => (k, v) :: jlv (k + (match v with | .inr (.inl _) => 2 | _ => 1)) r
theorem jlv_args (g : GX) : ∀ (k : Nat) (av : List AV), lv_args k (av.map (jcv g)) = (jlv k av).map fun q => (q.1, jcv g q.2)
  | _, [] => rfl
  | k, v :: r => by
    obtain x | x | (_ | x) | (_ | _) := v <;> simp [lv_args, jlv, jcv, Value.category, jlv_args g]
def jwd (av : List AV) : Nat := (av.map fun v => (match v with | .inr (.inl _) => 2 | _ => 1)).sum
theorem jlg_len (g : GX) : ∀ (av : List AV), (lg_sl (av.map (jcv g))).length = jwd av
  | [] => rfl
  | v :: r => by
    have ih := jlg_len g r
    simp only [lg_sl, jwd, List.map_cons, List.flatMap_cons, List.length_append, List.sum_cons] at ih ⊢
    rw [ih]
    obtain x | x | (_ | x) | (_ | _) := v <;> simp [jcv, Value.category]
/-- a method's contract out of the walk of its body -/
theorem jM_of {l : Launch} {g : GX} {d : Nat} {md : MD} {av : List AV} {ah : AH} {r : Option AV} {ah' : AH} (hy : plainName md.1.cls = true) (hn : jwd av ≤ md.2.2.1)
    (h : J l g md (jRm d md) (jQm g md r ah') 0 (jlv 0 av) [] ah (0, 0)) : jM l g d md av ah r ah' := by
  refine Met.ofW (cc := md.2.1) (maxL := md.2.2.1) (ret := md.2.2.2.1) hy rfl ?_
  intro p e s m args below meth c s₁ B hml hv
  obtain ⟨rfl, ⟨hz, hP, hK⟩, hAm⟩ := hv
  have hts := atoms_spec (ws := jWs md) B.pre
  have hl := lv_entry (av.map (jcv g)) (n := md.2.2.1) (by rw [jlg_len]; exact hn)
  rw [lg_entry_eq]
  generalize (lg_sl (av.map (jcv g)) ++ List.replicate (md.2.2.1 - (lg_sl (av.map (jcv g))).length) Slot.unset).toArray = ls at hl ⊢
  rw [jlv_args] at hl
  exact h p e s m _ below meth c s.heap [] ls ⟨B.exec, B.bytes, B.returns, hml, findClass_of_methodNamed B.named, fun w hw => hts w (List.mem_cons_of_mem _ hw), B.notSynchronized, (name_of_methodNamed B.named B.method).1, hK, hAm, by omega⟩ hz hP va_S.rf hl
end
section
/-! ===== plain instructions as a function; a run of them ===== -/
def jld : List (Nat × AV) → Nat → Option AV
  | [], _ => none
  | (k, v) :: r, i => if k = i then some v else jld r i
def jisL : AV → Bool
  | .inr (.inl _) => true
  | _ => false
def jst1 (ls : List (Nat × AV)) (i : Nat) (v : AV) : List (Nat × AV) := (i, v) :: ls.filter (fun q => !(q.1 == i) && !(q.1 + 1 == i && jisL q.2))
def jst2 (ls : List (Nat × AV)) (i : Nat) (v : AV) : List (Nat × AV) := (i, v) :: ls.filter (fun q => !(q.1 == i) && (!(q.1 == i + 1) && !(q.1 + 1 == i && jisL q.2)))
theorem jcat (g : GX) (v : AV) : ((jcv g v).category == 2) = jisL v := by
  obtain x | x | (_ | x) | (_ | _) := v <;> rfl
theorem jld_mem : ∀ {ls : List (Nat × AV)} {i : Nat} {v : AV}, jld ls i = some v → (i, v) ∈ ls
  | [], _, _, h => by cases h
  | (k, w) :: r, i, v, h => by
    unfold jld at h
    by_cases hk : k = i
    · rw [if_pos hk] at h
      cases h
      subst hk
      exact List.mem_cons_self
    · rw [if_neg hk] at h
      exact List.mem_cons_of_mem _ (jld_mem h)
theorem jld_at {g : GX} {la : Array Slot} {n : Nat} {ls : List (Nat × AV)} (hl : lv_has la n (ls.map fun q => (q.1, jcv g q.2))) {i : Nat} {v : AV} (h : jld ls i = some v) : la[i]? = some (.val (jcv g v)) :=
  hl.2.2 (i, jcv g v) (List.mem_map.mpr ⟨(i, v), jld_mem h, rfl⟩)
theorem jst1_eq (g : GX) (ls : List (Nat × AV)) (i : Nat) (v : AV) : (i, jcv g v) :: (ls.map fun q => (q.1, jcv g q.2)).filter (fun q => !(q.1 == i) && !(q.1 + 1 == i && q.2.category == 2)) = (jst1 ls i v).map fun q => (q.1, jcv g q.2) := by
  simp only [jst1, List.map_cons, List.filter_map, List.cons.injEq, true_and]
  congr 1
  apply List.filter_congr
  intro q _
  simp only [Function.comp, jcat]
theorem jst2_eq (g : GX) (ls : List (Nat × AV)) (i : Nat) (v : AV) : (i, jcv g v) :: (ls.map fun q => (q.1, jcv g q.2)).filter (fun q => !(q.1 == i) && (!(q.1 == i + 1) && !(q.1 + 1 == i && q.2.category == 2))) = (jst2 ls i v).map fun q => (q.1, jcv g q.2) := by
  simp only [jst2, List.map_cons, List.filter_map, List.cons.injEq, true_and]
  congr 1
  apply List.filter_congr
  intro q _
  simp only [Function.comp, jcat]
def jlen : Instr → Nat
  | .bipush _ | .iload _ | .lload _ | .aload _ | .istore _ | .lstore _ | .astore _ | .newarray _ => 2
  | .sipush _ | .iinc _ _ | .goto _ | .ifCond _ _ | .if_icmp _ _ | .ifnull _ | .ifnonnull _ | .getfield _ | .putfield _ | .getstatic _ | .new _ | .anewarray _ | .invokevirtual _ | .invokespecial _ | .invokestatic _ | .ldc2_w _ | .ldc_w _ => 3
  | _ => 1
abbrev JF : Type := Nat × List (Nat × AV) × List AV
def jI (mL : Nat) (i : Nat) (pc : Nat) (ls : List (Nat × AV)) : List AV → Option JF
  | .inl x :: st => if i < mL then some (pc, jst1 ls i (.inl x), st) else none
  | _ => none
def jLo (mL : Nat) (i : Nat) (pc : Nat) (ls : List (Nat × AV)) : List AV → Option JF
  | .inr (.inl x) :: st => if i + 1 < mL then some (pc, jst2 ls i (.inr (.inl x)), st) else none
  | _ => none
def jRe (mL : Nat) (i : Nat) (pc : Nat) (ls : List (Nat × AV)) : List AV → Option JF
  | .inr (.inr (.inl x)) :: st => if i < mL then some (pc, jst1 ls i (.inr (.inr (.inl x))), st) else none
  | _ => none
def jlI (i : Nat) (pc : Nat) (ls : List (Nat × AV)) (st : List AV) : Option JF :=
  match jld ls i with
  | some (.inl x) => some (pc, ls, .inl x :: st)
  | _ => none
def jlL (i : Nat) (pc : Nat) (ls : List (Nat × AV)) (st : List AV) : Option JF :=
  match jld ls i with
  | some (.inr (.inl x)) => some (pc, ls, .inr (.inl x) :: st)
  | _ => none
def jlR (i : Nat) (pc : Nat) (ls : List (Nat × AV)) (st : List AV) : Option JF :=
  match jld ls i with
  | some (.inr (.inr x)) => some (pc, ls, .inr (.inr x) :: st)
  | _ => none
def jb2 (f : Int32 → Int32 → Int32) (pc : Nat) (ls : List (Nat × AV)) : List AV → Option JF
  | .inl y :: .inl x :: st => some (pc, ls, .inl (f x y) :: st)
  | _ => none
def jb3 (f : Int64 → Int64 → Int64) (pc : Nat) (ls : List (Nat × AV)) : List AV → Option JF
  | .inr (.inl y) :: .inr (.inl x) :: st => some (pc, ls, .inr (.inl (f x y)) :: st)
  | _ => none
def jstp (mL : Nat) (i : Instr) (pc : Nat) (ls : List (Nat × AV)) (st : List AV) : Option JF :=
  match i with
  | .iconst v => some (pc + 1, ls, .inl (Int32.ofInt v) :: st)
  | .bipush v => some (pc + 2, ls, .inl (Int8.ofInt v).toInt32 :: st)
  | .sipush v => some (pc + 3, ls, .inl (Int16.ofInt v).toInt32 :: st)
  | .lconst v => some (pc + 1, ls, .inr (.inl (Int64.ofNat (v : Nat))) :: st)
  | .aconst_null => some (pc + 1, ls, .inr (.inr (.inl none)) :: st)
  | .iload k => jlI k (pc + 2) ls st
  | .iload_n k => jlI (k : Nat) (pc + 1) ls st
  | .lload k => jlL k (pc + 2) ls st
  | .lload_n k => jlL (k : Nat) (pc + 1) ls st
  | .aload k => jlR k (pc + 2) ls st
  | .aload_n k => jlR (k : Nat) (pc + 1) ls st
  | .istore k => jI mL k (pc + 2) ls st
  | .istore_n k => jI mL (k : Nat) (pc + 1) ls st
  | .lstore k => jLo mL k (pc + 2) ls st
  | .lstore_n k => jLo mL (k : Nat) (pc + 1) ls st
  | .astore k => jRe mL k (pc + 2) ls st
  | .astore_n k => jRe mL (k : Nat) (pc + 1) ls st
  | .iinc k v => (match jld ls k with
    | some (.inl x) => if k < mL then some (pc + 3, jst1 ls k (.inl (x + Int32.ofInt v)), st) else none
    | _ => none)
  | .iadd => jb2 (fun x y => x + y) (pc + 1) ls st
  | .isub => jb2 (fun x y => x - y) (pc + 1) ls st
  | .imul => jb2 (fun x y => x * y) (pc + 1) ls st
  | .iand => jb2 (fun x y => x &&& y) (pc + 1) ls st
  | .ior => jb2 (fun x y => x ||| y) (pc + 1) ls st
  | .ixor => jb2 (fun x y => x ^^^ y) (pc + 1) ls st
  | .ishl => jb2 (fun x y => x <<< (y &&& 31)) (pc + 1) ls st
  | .ishr => jb2 (fun x y => x >>> (y &&& 31)) (pc + 1) ls st
  | .iushr => jb2 (fun x y => (x.toUInt32 >>> (y.toUInt32 &&& Int32.toUInt32 31)).toInt32) (pc + 1) ls st
  | .ladd => jb3 (fun x y => x + y) (pc + 1) ls st
  | .lmul => jb3 (fun x y => x * y) (pc + 1) ls st
  | .lcmp => (match st with
    | .inr (.inl y) :: .inr (.inl x) :: st => some (pc + 1, ls, .inl (lg_cmp x y) :: st)
    | _ => none)
  | .i2l => (match st with
    | .inl x :: st => some (pc + 1, ls, .inr (.inl x.toInt64) :: st)
    | _ => none)
  | .l2i => (match st with
    | .inr (.inl x) :: st => some (pc + 1, ls, .inl x.toInt32 :: st)
    | _ => none)
  | .i2b => (match st with
    | .inl x :: st => some (pc + 1, ls, .inl x.toInt8.toInt32 :: st)
    | _ => none)
  | .dup => (match st with
    | .inr (.inr x) :: st => some (pc + 1, ls, .inr (.inr x) :: .inr (.inr x) :: st)
    | .inl x :: st => some (pc + 1, ls, .inl x :: .inl x :: st)
    | _ => none)
  | .dup2 => (match st with
    | .inl x :: .inr (.inr y) :: st => some (pc + 1, ls, .inl x :: .inr (.inr y) :: .inl x :: .inr (.inr y) :: st)
    | _ => none)
  | .goto off => if 0 ≤ (pc : Int) + off then some (((pc : Int) + off).toNat, ls, st) else none
  | _ => none
section
variable {l : Launch} {g : GX} {md : MD} {R : Room} {Q : jQ} {pc : Nat} {ls : List (Nat × AV)} {st : List AV} {ah : AH} {cs : Nat × Nat}
theorem J_stp {i : Instr} {pc' : Nat} {ls' : List (Nat × AV)} {st' : List AV} (hd : decode md.2.1 pc = .ok (i, jlen i)) (h : jstp md.2.2.1 i pc ls st = some (pc', ls', st')) (k : J l g md R Q pc' ls' st' ah cs) : J l g md R Q pc ls st ah cs := by
  intro p e s m args below meth c H locs la hC hz hP hS hl
  have kk := fun la' hl' => k p e s m args below meth c H locs la' hC hz hP hS hl'
  obtain ⟨hx, hb, -⟩ := hC
  unfold jstp at h
  split at h
  · cases h; exact lv_iconst hx hb hd rfl (kk la hl)
  · cases h; exact lv_bipush hx hb hd rfl (kk la hl)
  · cases h; exact lv_sipush hx hb hd rfl (kk la hl)
  · cases h; exact lv_lconst hx hb hd rfl (kk la hl)
  · cases h; exact lv_null hx hb hd (kk la hl)
  · unfold jlI at h
    split at h
    · rename_i hq
      cases h; exact lv_iload hx hb hd (jld_at hl hq) (kk la hl)
    · cases h
  · unfold jlI at h
    split at h
    · rename_i hq
      cases h; exact lv_iload_n hx hb hd rfl (jld_at hl hq) (kk la hl)
    · cases h
  · unfold jlL at h
    split at h
    · rename_i hq
      cases h; exact lv_lload hx hb hd (jld_at hl hq) (kk la hl)
    · cases h
  · unfold jlL at h
    split at h
    · rename_i hq
      cases h; exact lv_lload_n hx hb hd rfl (jld_at hl hq) (kk la hl)
    · cases h
  · unfold jlR at h
    split at h
    · rename_i v hq
      cases h
      obtain (_ | v) | (_ | _) := v
      · exact lv_aloadN hx hb hd (jld_at hl hq) (kk la hl)
      · exact lv_aload hx hb hd (jld_at hl hq) (kk la hl)
      · exact lv_aload hx hb hd (jld_at hl hq) (kk la hl)
      · exact lv_aload hx hb hd (jld_at hl hq) (kk la hl)
    · cases h
  · unfold jlR at h
    split at h
    · rename_i v hq
      cases h
      obtain (_ | v) | (_ | _) := v
      · exact lv_aload_nN hx hb hd rfl (jld_at hl hq) (kk la hl)
      · exact lv_aload_n hx hb hd rfl (jld_at hl hq) (kk la hl)
      · exact lv_aload_n hx hb hd rfl (jld_at hl hq) (kk la hl)
      · exact lv_aload_n hx hb hd rfl (jld_at hl hq) (kk la hl)
    · cases h
  · unfold jI at h
    split at h
    · split at h
      · rename_i hq
        cases h; exact lv_istore hx hb hd hl hq (jst1_eq g _ _ (.inl _)) kk
      · cases h
    · cases h
  · unfold jI at h
    split at h
    · split at h
      · rename_i hq
        cases h; exact lv_istore_n hx hb hd rfl hl hq (jst1_eq g _ _ (.inl _)) kk
      · cases h
    · cases h
  · unfold jLo at h
    split at h
    · split at h
      · rename_i hq
        cases h; exact lv_lstore hx hb hd hl hq (jst2_eq g _ _ (.inr (.inl _))) kk
      · cases h
    · cases h
  · unfold jLo at h
    split at h
    · split at h
      · rename_i hq
        cases h; exact lv_lstore_n hx hb hd rfl hl hq (jst2_eq g _ _ (.inr (.inl _))) kk
      · cases h
    · cases h
  · unfold jRe at h
    split at h
    · rename_i v _
      split at h
      · rename_i hq
        cases h
        obtain _ | v := v
        · exact lv_astoreN hx hb hd hl hq (jst1_eq g _ _ (.inr (.inr (.inl none)))) kk
        · exact lv_astore hx hb hd hl hq (jst1_eq g _ _ (.inr (.inr (.inl (some _))))) kk
      · cases h
    · cases h
  · unfold jRe at h
    split at h
    · rename_i v _
      split at h
      · rename_i hq
        cases h
        obtain _ | v := v
        · exact lv_astore_nN hx hb hd rfl hl hq (jst1_eq g _ _ (.inr (.inr (.inl none)))) kk
        · exact lv_astore_n hx hb hd rfl hl hq (jst1_eq g _ _ (.inr (.inr (.inl (some _))))) kk
      · cases h
    · cases h
  · split at h
    · rename_i hq
      split at h
      · rename_i hn
        cases h
        obtain ⟨j, hj⟩ := List.getElem?_of_mem (jld_mem hq)
        refine lv_iinc hx hb hd hl (k := j) ?_ rfl hn (jst1_eq g _ _ (.inl _)) kk
        rw [List.getElem?_map, hj]
        rfl
      · cases h
    · cases h
  · unfold jb2 at h; split at h <;> cases h; exact lv_iadd hx hb hd (kk la hl)
  · unfold jb2 at h; split at h <;> cases h; exact lv_isub hx hb hd (kk la hl)
  · unfold jb2 at h; split at h <;> cases h; exact lv_imul hx hb hd (kk la hl)
  · unfold jb2 at h; split at h <;> cases h; exact lv_iand hx hb hd (kk la hl)
  · unfold jb2 at h; split at h <;> cases h; exact lv_ior hx hb hd (kk la hl)
  · unfold jb2 at h; split at h <;> cases h; exact lv_ixor hx hb hd (kk la hl)
  · unfold jb2 at h; split at h <;> cases h; exact lv_ishl hx hb hd (kk la hl)
  · unfold jb2 at h; split at h <;> cases h; exact lv_ishr hx hb hd (kk la hl)
  · unfold jb2 at h; split at h <;> cases h; exact lv_iushr hx hb hd rfl (kk la hl)
  · unfold jb3 at h; split at h <;> cases h; exact lv_ladd hx hb hd (kk la hl)
  · unfold jb3 at h; split at h <;> cases h; exact lv_lmul hx hb hd (kk la hl)
  · split at h <;> cases h; exact W.lcmp hx hb hd (kk la hl)
  · split at h <;> cases h; exact lv_i2l hx hb hd rfl (kk la hl)
  · split at h <;> cases h; exact lv_l2i hx hb hd rfl (kk la hl)
  · split at h <;> cases h; exact lv_i2b hx hb hd rfl (kk la hl)
  · split at h
    · rename_i v _
      cases h
      obtain (_ | v) | (_ | _) := v <;> exact lv_dup hx hb hd rfl (kk la hl)
    · cases h; exact lv_dup hx hb hd rfl (kk la hl)
    · cases h
  · split at h
    · rename_i v _
      cases h
      obtain (_ | v) | (_ | _) := v <;> exact lv_dup2_11 hx hb hd rfl rfl (kk la hl)
    · cases h
  · split at h
    · rename_i hq
      cases h; exact lv_goto hx hb hd (by omega) (kk la hl)
    · cases h
  · cases h
def jrun (mL : Nat) : List (Nat × Instr) → Nat → List (Nat × AV) → List AV → Option JF
  | [], pc, ls, st => some (pc, ls, st)
  | (q, i) :: r, pc, ls, st => if q = pc then (match jstp mL i pc ls st with
    | some (pc', ls', st') => jrun mL r pc' ls' st'
    | none => none) else none
def jOk (md : MD) (tb : List (Nat × Instr)) : Prop := ∀ (k : Nat) (e : Nat × Instr), tb[k]? = some e → decode md.2.1 e.1 = .ok (e.2, jlen e.2)
theorem jOk_of {md : MD} {tb : List (Nat × Instr)} (h : tb.all (fun e => decide (decode md.2.1 e.1 = .ok (e.2, jlen e.2))) = true) : jOk md tb := fun k e hk => by
  have h1 := List.all_eq_true.mp h e (List.mem_of_getElem? hk)
  exact of_decide_eq_true h1
theorem J_run (seg : List (Nat × Instr)) : ∀ {pc pc' : Nat} {ls ls' : List (Nat × AV)} {st st' : List AV}, (∀ e ∈ seg, decode md.2.1 e.1 = .ok (e.2, jlen e.2)) → jrun md.2.2.1 seg pc ls st = some (pc', ls', st') → J l g md R Q pc' ls' st' ah cs → J l g md R Q pc ls st ah cs := by
  induction seg with
  | nil =>
    intro pc pc' ls ls' st st' _ h k
    cases h
    exact k
  | cons a r ih =>
    obtain ⟨q, i⟩ := a
    intro pc pc' ls ls' st st' hd h k
    rw [jrun] at h
    by_cases hq : q = pc
    · rw [if_pos hq] at h
      subst hq
      cases hs : jstp md.2.2.1 i q ls st with
      | none =>
        rw [hs] at h
        cases h
      | some f =>
        obtain ⟨fa, fb, fc⟩ := f
        rw [hs] at h
        exact J_stp (hd (q, i) List.mem_cons_self) hs (ih (fun e he => hd e (List.mem_cons_of_mem _ he)) h k)
    · rw [if_neg hq] at h
      cases h
theorem J_seg {tb : List (Nat × Instr)} (ok : jOk md tb) (i n : Nat) {pc' : Nat} {ls' : List (Nat × AV)} {st' : List AV} (h : jrun md.2.2.1 ((tb.drop i).take n) pc ls st = some (pc', ls', st')) (k : J l g md R Q pc' ls' st' ah cs) : J l g md R Q pc ls st ah cs := by
  refine J_run ((tb.drop i).take n) (fun e he => ?_) h k
  obtain ⟨j, hj⟩ := List.getElem?_of_mem (List.mem_of_mem_drop (List.mem_of_mem_take he))
  exact ok j e hj
end
end
section
/-! ===== the abstract heap's own operations ===== -/
def qf (ah : AH) (o : Option Nat) (c j : Nat) : Option AV :=
  match o with
  | none => none
  | some k => match ah[k]? with
    | some (.inr (.inr (c', fs))) => if c' = c then fs[j]? else none
    | _ => none
def gI (ah : AH) (o : Option Nat) (c j : Nat) : Option Int32 := match qf ah o c j with
  | some (.inl x) => some x
  | _ => none
def gL (ah : AH) (o : Option Nat) (c j : Nat) : Option Int64 := match qf ah o c j with
  | some (.inr (.inl x)) => some x
  | _ => none
def gR (ah : AH) (o : Option Nat) (c j : Nat) : Option (Option Nat) := match qf ah o c j with
  | some (.inr (.inr (.inl x))) => some x
  | _ => none
def sF (ah : AH) (o : Option Nat) (c j : Nat) (v : AV) : Option AH :=
  match o with
  | none => none
  | some k => match ah[k]? with
    | some (.inr (.inr (c', fs))) => if c' = c ∧ j < fs.length then some (ah.set k (.inr (.inr (c', fs.set j v)))) else none
    | _ => none
def gA (ah : AH) (o : Option Nat) (i : Int32) : Option Int32 :=
  match o with
  | none => none
  | some k => match ah[k]? with
    | some (.inl xs) => if i < 0 then none else xs[i.toNatClampNeg]?
    | _ => none
def sA (ah : AH) (o : Option Nat) (i v : Int32) : Option AH :=
  match o with
  | none => none
  | some k => match ah[k]? with
    | some (.inl xs) => if ¬ i < 0 ∧ i.toNatClampNeg < xs.length then some (ah.set k (.inl (xs.set i.toNatClampNeg v))) else none
    | _ => none
def lA (ah : AH) (o : Option Nat) : Option Int32 :=
  match o with
  | none => none
  | some k => match ah[k]? with
    | some (.inl xs) => some (Int32.ofNat xs.length)
    | some (.inr (.inl (_, rs))) => some (Int32.ofNat rs.length)
    | _ => none
def gE (ah : AH) (o : Option Nat) (i : Int32) : Option (Option Nat) :=
  match o with
  | none => none
  | some k => match ah[k]? with
    | some (.inr (.inl (_, rs))) => if i < 0 then none else rs[i.toNatClampNeg]?
    | _ => none
def sE (ah : AH) (o : Option Nat) (i : Int32) (v : Option Nat) : Option AH :=
  match o, v with
  | some k, some k' => match ah[k]?, ah[k']? with
    | some (.inr (.inl (t, rs))), some (.inr (.inr (c, _))) => if (¬ i < 0 ∧ i.toNatClampNeg < rs.length) ∧ ((t = 0 ∧ c = 2) ∨ (t = 1 ∧ c = 4)) then some (ah.set k (.inr (.inl (t, rs.set i.toNatClampNeg (some k'))))) else none
    | _, _ => none
  | _, _ => none
def qO (ah : AH) (o : Option Nat) (c : Nat) : Bool :=
  match o with
  | none => false
  | some k => match ah[k]? with
    | some (.inr (.inr (c', _))) => c' == c
    | _ => false
def gT (i : Int32) : Option Int32 := if ¬ i < 0 ∧ i.toNatClampNeg < 6 then some (jlet i.toNatClampNeg) else none
def gS (g : GX) (i : Int32) : Option Int32 := if ¬ i < 0 ∧ i.toNatClampNeg < jL g then some (jX g i.toNatClampNeg) else none
/-- n ints from sp on of one row come to dp on of another -/
def cpL (xs ys : List Int32) (sp dp n : Nat) : List Int32 := ys.mapIdx (fun k y => if dp ≤ k ∧ k < dp + n then xs.getD (sp + (k - dp)) 0 else y)
def cA (ah : AH) (o : Option Nat) (sp : Int32) (o' : Option Nat) (dp n : Int32) : Option AH :=
  match o, o' with
  | some k, some k' => match ah[k]?, ah[k']? with
    | some (.inl xs), some (.inl ys) => if (¬ sp < 0 ∧ ¬ dp < 0 ∧ ¬ n < 0) ∧ sp.toNatClampNeg + n.toNatClampNeg ≤ xs.length ∧ dp.toNatClampNeg + n.toNatClampNeg ≤ ys.length then some (ah.set k' (.inl (cpL xs ys sp.toNatClampNeg dp.toNatClampNeg n.toNatClampNeg))) else none
    | _, _ => none
  | _, _ => none
/-! what they say of the cells -/
theorem qf_spec {ah : AH} {o : Option Nat} {c j : Nat} {v : AV} (h : qf ah o c j = some v) : ∃ k fs, o = some k ∧ ah[k]? = some (.inr (.inr (c, fs))) ∧ fs[j]? = some v := by
  unfold qf at h
  split at h
  · cases h
  · rename_i k
    split at h
    · rename_i c' fs hc
      split at h
      · rename_i e
        subst e
        exact ⟨k, fs, rfl, hc, h⟩
      · cases h
    · cases h
theorem gI_spec {ah : AH} {o : Option Nat} {c j : Nat} {x : Int32} (h : gI ah o c j = some x) : qf ah o c j = some (.inl x) := by
  unfold gI at h
  split at h
  · rename_i y hy
    cases h
    exact hy
  · cases h
theorem gL_spec {ah : AH} {o : Option Nat} {c j : Nat} {x : Int64} (h : gL ah o c j = some x) : qf ah o c j = some (.inr (.inl x)) := by
  unfold gL at h
  split at h
  · rename_i y hy
    cases h
    exact hy
  · cases h
theorem gR_spec {ah : AH} {o : Option Nat} {c j : Nat} {x : Option Nat} (h : gR ah o c j = some x) : qf ah o c j = some (.inr (.inr (.inl x))) := by
  unfold gR at h
  split at h
  · rename_i y hy
    cases h
    exact hy
  · cases h
theorem sF_spec {ah ah' : AH} {o : Option Nat} {c j : Nat} {v : AV} (h : sF ah o c j v = some ah') : ∃ k fs, o = some k ∧ ah[k]? = some (.inr (.inr (c, fs))) ∧ j < fs.length ∧ ah' = ah.set k (.inr (.inr (c, fs.set j v))) := by
  unfold sF at h
  split at h
  · cases h
  · rename_i k
    split at h
    · rename_i c' fs hc
      split at h
      · rename_i e
        obtain ⟨rfl, e2⟩ := e
        cases h
        exact ⟨k, fs, rfl, hc, e2, rfl⟩
      · cases h
    · cases h
theorem gA_spec {ah : AH} {o : Option Nat} {i x : Int32} (h : gA ah o i = some x) : ∃ k xs, o = some k ∧ ah[k]? = some (.inl xs) ∧ vp_in i xs.length ∧ x = xs.getD i.toNatClampNeg 0 := by
  unfold gA at h
  split at h
  · cases h
  · rename_i k
    split at h
    · rename_i xs hc
      split at h
      · cases h
      · rename_i hi
        have h1 := (List.getElem?_eq_some_iff.mp h).1
        refine ⟨k, xs, rfl, hc, fun q => ?_, by rw [List.getD_eq_getElem?_getD, h]; rfl⟩
        rcases q with q | q
        · exact hi q
        · omega
    · cases h
theorem sA_spec {ah ah' : AH} {o : Option Nat} {i x : Int32} (h : sA ah o i x = some ah') : ∃ k xs, o = some k ∧ ah[k]? = some (.inl xs) ∧ vp_in i xs.length ∧ ah' = ah.set k (.inl (xs.set i.toNatClampNeg x)) := by
  unfold sA at h
  split at h
  · cases h
  · rename_i k
    split at h
    · rename_i xs hc
      split at h
      · rename_i hi
        cases h
        refine ⟨k, xs, rfl, hc, fun q => ?_, rfl⟩
        rcases q with q | q
        · exact hi.1 q
        · have := hi.2
          omega
      · cases h
    · cases h
theorem jce_set (g : GX) (xs : List Int32) (i : Nat) (v : Int32) (h : i < xs.length) : jce g (.inl (xs.set i v)) = .inl ((jC g).1, xs.length, .inl (upd (fun j => xs.getD j 0) i v)) := by
  have e : (fun j => (xs.set i v).getD j 0) = upd (fun j => xs.getD j 0) i v := by
    funext j
    simp only [List.getD_eq_getElem?_getD, List.getElem?_set, upd]
    by_cases hj : i = j
    · subst hj
      simp [h]
    · simp [hj, Ne.symm hj]
  simp only [jce, List.length_set]
  rw [e]
theorem jce_setF (g : GX) (c : Nat) (fs : List AV) (j : Nat) (v : AV) : jce g (.inr (.inr (c, fs.set j v))) = .inr (c, (fs.map (jcv g)).set j (jcv g v)) := by
  simp only [jce, List.map_set]
/-! ===== the tables' words by class ===== -/
def jPt (C : String) (T : u_T) (N : Nat) : Prop := (∀ w ∈ u_ws C T N, w ∈ jBG) ∧ ∃ ty0 : Nat → FieldType, (∀ k, k < N → parseFieldDescriptor (T k).2.2.1 = some (ty0 k)) ∧ ∀ a, a < N → ∀ b, b < N → a ≠ b → (T a).2.1 ≠ (T b).2.1
def jinB (ws : List Cond) : Bool := ws.all (fun w => decide (w ∈ lw_tbl) && goodWord w)
theorem jinB_of {ws : List Cond} (h : jinB ws = true) : ∀ w ∈ ws, w ∈ jBG := fun w hw => by
  have h1 := List.all_eq_true.mp h w hw
  simp only [Bool.and_eq_true, decide_eq_true_eq] at h1
  exact List.mem_filter.mpr ⟨h1.1, h1.2⟩
set_option maxRecDepth 100000 in
theorem jPt0 : jPt RX0 TX0 5 := ⟨jinB_of (by decide +kernel), tyX0, tyX0_ok, nmX0⟩
set_option maxRecDepth 100000 in
theorem jPt1 : jPt RX1 TX1 7 := ⟨jinB_of (by decide +kernel), tyX1, tyX1_ok, nmX1⟩
set_option maxRecDepth 100000 in
theorem jPt2 : jPt RX2 TX2 2 := ⟨jinB_of (by decide +kernel), tyX2, tyX2_ok, nmX2⟩
set_option maxRecDepth 100000 in
theorem jPt3 : jPt RX3 TX3 1 := ⟨jinB_of (by decide +kernel), tyX3, tyX3_ok, nmX3⟩
set_option maxRecDepth 100000 in
theorem jPt4 : jPt RX4 TX4 5 := ⟨jinB_of (by decide +kernel), tyX4, tyX4_ok, nmX4⟩
set_option maxRecDepth 100000 in
theorem jPt5 : jPt RX5 TX5 14 := ⟨jinB_of (by decide +kernel), tyX5, tyX5_ok, nmX5⟩
set_option maxRecDepth 100000 in
theorem jPt6 : jPt RX6 TX6 28 := ⟨jinB_of (by decide +kernel), tyX6, tyX6_ok, nmX6⟩
theorem jPt_all {c : Nat} {q : vw_C} (h : jj_cl[c]? = some q) : jPt q.1 q.2.1 q.2.2 := by
  match c, h with
  | 0, h => cases h; exact jPt0
  | 1, h => cases h; exact jPt1
  | 2, h => cases h; exact jPt2
  | 3, h => cases h; exact jPt3
  | 4, h => cases h; exact jPt4
  | 5, h => cases h; exact jPt5
  | 6, h => cases h; exact jPt6
  | c + 7, h => simp [jj_cl] at h
/-- a site of a field: read -/
def jFL (own : String) (idx c j : Nat) : Prop := ∃ (C : String) (T : u_T) (N : Nat), jj_cl[c]? = some (C, T, N) ∧ j < N ∧ (Cond.fieldLink own idx (T j).1 (T j).2.1 (T j).2.2.1 ∈ jBG ∨ ∃ host, Cond.fieldLinkNest own idx (T j).1 (T j).2.1 (T j).2.2.1 host ∈ lw_tbl)
/-- a site of a field: written -/
def jFP (own name : String) (idx c j : Nat) (ty : FieldType) : Prop := ∃ (C : String) (T : u_T) (N : Nat), jj_cl[c]? = some (C, T, N) ∧ j < N ∧ parseFieldDescriptor (T j).2.2.1 = some ty ∧
  (((T j).2.2.2 = false ∧ (Cond.fieldLink own idx (T j).1 (T j).2.1 (T j).2.2.1 ∈ jBG ∨ ∃ host, Cond.fieldLinkNest own idx (T j).1 (T j).2.1 (T j).2.2.1 host ∈ lw_tbl)) ∨ ((T j).2.2.2 = true ∧ name = "<init>" ∧ (T j).1 = own ∧ Cond.fieldLink own idx (T j).1 (T j).2.1 (T j).2.2.1 ∈ jBG))
def jPV (ty : FieldType) (v : AV) : Prop := ∀ g : GX, narrow ty (jcv g v) = jcv g v ∧ fits ty (jcv g v) = true
theorem jPV_int (x : Int32) : jPV .int (.inl x) := fun _ => ⟨rfl, rfl⟩
theorem jPV_long (x : Int64) : jPV .long (.inr (.inl x)) := fun _ => ⟨rfl, rfl⟩
theorem jPV_obj (C : String) (o : Option Nat) : jPV (.object C) (.inr (.inr (.inl o))) := fun _ => by cases o <;> exact ⟨rfl, rfl⟩
theorem jPV_arr (t : FieldType) (o : Option Nat) : jPV (.array t) (.inr (.inr (.inl o))) := fun _ => by cases o <;> exact ⟨rfl, rfl⟩
theorem jPV_z0 : jPV .boolean (.inl 0) := fun _ => ⟨by simp only [jcv]; decide, by simp only [jcv]; decide⟩
theorem jPV_z1 : jPV .boolean (.inl 1) := fun _ => ⟨by simp only [jcv]; decide, by simp only [jcv]; decide⟩
theorem jPV_z {x : Int32} (h : x = 0 ∨ x = 1) : jPV .boolean (.inl x) := by
  rcases h with rfl | rfl
  · exact jPV_z0
  · exact jPV_z1
section
variable {l : Launch} {g : GX} {md : MD} {R : Room} {Q : jQ} {pc : Nat} {ls : List (Nat × AV)} {st : List AV} {ah : AH} {cs : Nat × Nat}
theorem J_getf {o : Option Nat} {c j idx : Nat} {v : AV} (hd : decode md.2.1 pc = .ok (.getfield idx, 3)) (hs : jFL md.1.cls idx c j) (h : qf ah o c j = some v) (k : J l g md R Q (pc + 3) ls (v :: st) ah cs) : J l g md R Q pc ls (.inr (.inr (.inl o)) :: st) ah cs := by
  intro p e s m args below meth cd H locs la hC hz hP hS hl
  have kk := k p e s m args below meth cd H locs la hC hz hP hS hl
  obtain ⟨hx, hb, hr, hml, hown, hts, hlk, hnm, hK, hAm, hN⟩ := hC
  obtain ⟨a, fs, rfl, hc, hv⟩ := qf_spec h
  obtain ⟨C, T, N, e1, e2, e3⟩ := hs
  have hv' : (fs.map (jcv g))[j]? = some (jcv g v) := by rw [List.getElem?_map, hv]; rfl
  rcases e3 with e3 | ⟨host, e3⟩
  · exact va_get hx hb hts (jPt_all e1).1 hown hK hP a (jw_get hc) e1 j e2 (hts _ e3) (fun _ h => h) hv' hd kk
  · exact va_getN hx hb hts (jPt_all e1).1 hown hK hP a (jw_get hc) e1 j e2 (va_Nw.use rfl (hAm.2.2.2.2.1 _ _ _ _ _ _ e3)) (fun _ h => h) hv' hd kk
theorem J_getI {o : Option Nat} {c j idx : Nat} {x : Int32} (hd : decode md.2.1 pc = .ok (.getfield idx, 3)) (hs : jFL md.1.cls idx c j) (h : gI ah o c j = some x) (k : J l g md R Q (pc + 3) ls (.inl x :: st) ah cs) : J l g md R Q pc ls (.inr (.inr (.inl o)) :: st) ah cs := J_getf hd hs (gI_spec h) k
theorem J_getL {o : Option Nat} {c j idx : Nat} {x : Int64} (hd : decode md.2.1 pc = .ok (.getfield idx, 3)) (hs : jFL md.1.cls idx c j) (h : gL ah o c j = some x) (k : J l g md R Q (pc + 3) ls (.inr (.inl x) :: st) ah cs) : J l g md R Q pc ls (.inr (.inr (.inl o)) :: st) ah cs := J_getf hd hs (gL_spec h) k
theorem J_getR {o x : Option Nat} {c j idx : Nat} (hd : decode md.2.1 pc = .ok (.getfield idx, 3)) (hs : jFL md.1.cls idx c j) (h : gR ah o c j = some x) (k : J l g md R Q (pc + 3) ls (.inr (.inr (.inl x)) :: st) ah cs) : J l g md R Q pc ls (.inr (.inr (.inl o)) :: st) ah cs := J_getf hd hs (gR_spec h) k
theorem J_put {o : Option Nat} {c j idx : Nat} {v : AV} {ty : FieldType} {ah' : AH} (hd : decode md.2.1 pc = .ok (.putfield idx, 3)) (hs : jFP md.1.cls md.1.name idx c j ty) (hv : jPV ty v) (h : sF ah o c j v = some ah') (k : J l g md R Q (pc + 3) ls st ah' cs) : J l g md R Q pc ls (v :: .inr (.inr (.inl o)) :: st) ah cs := by
  intro p e s m args below meth cd H locs la hC hz hP hS hl
  have hC0 := hC
  obtain ⟨hx, hb, hr, hml, hown, hts, hlk, hnm, hK, hAm, hN⟩ := hC
  obtain ⟨a, fs, rfl, hc, hj, rfl⟩ := sF_spec h
  obtain ⟨C, T, N, e1, e2, e3, e4⟩ := hs
  obtain ⟨q1, ty0, q2, q3⟩ := jPt_all e1
  have hsz : ∀ (H1 : Heap) (locs1 : List Loc), va_P (jD g) jj_cl ((jw g ah).set a (jN g + a, .inr (c, (fs.map (jcv g)).set j (jcv g v)))) H1 → va_D (jA g) ((jw g ah).set a (jN g + a, .inr (c, (fs.map (jcv g)).set j (jcv g v)))) → va_S (jA g) s.heap H1 locs1 → W p l e R s m args below meth cd H1 locs1 cs.1 cs.2 (Q below args s) (F0 m (pc + 3) la (st.map (jcv g))) := by
    intro H1 locs1 hP1 _ hS1
    refine k p e s m args below meth cd H1 locs1 la hC0 (by rw [hz, List.length_set]) ?_ hS1 hl
    rw [jw_set, jce_setF]
    exact hP1
  have hj' : j < (fs.map (jcv g)).length := by rw [List.length_map]; exact hj
  rcases e4 with ⟨f1, f2⟩ | ⟨f1, f2, f3, f4⟩
  · rcases f2 with f2 | ⟨host, f2⟩
    · exact va_put hx hb hts q1 ty0 q2 q3 hown hK hP (jw_D g ah) hS a (jw_get hc) e1 j e2 (hts _ f2) (fun _ h => h) f1 e3 (hv g).1 (hv g).2 hj' hd hsz
    · exact va_putN hx hb hts q1 ty0 q2 q3 hown hK hP (jw_D g ah) hS a (jw_get hc) e1 j e2 (va_Nw.use rfl (hAm.2.2.2.2.1 _ _ _ _ _ _ f2)) (fun _ h => h) f1 e3 (hv g).1 (hv g).2 hj' hd hsz
  · exact va_putF hx hb hts q1 ty0 q2 q3 hown hK hP (jw_D g ah) hS a (jw_get hc) e1 j e2 (hts _ f4) (fun _ h => h) f1 (hnm.trans f2) f3 e3 (hv g).1 (hv g).2 hj' hd hsz
theorem J_iald {o : Option Nat} {i x : Int32} (hd : decode md.2.1 pc = .ok (.iaload, 1)) (h : gA ah o i = some x) (k : J l g md R Q (pc + 1) ls (.inl x :: st) ah cs) : J l g md R Q pc ls (.inl i :: .inr (.inr (.inl o)) :: st) ah cs := by
  intro p e s m args below meth cd H locs la hC hz hP hS hl
  have kk := k p e s m args below meth cd H locs la hC hz hP hS hl
  obtain ⟨hx, hb, hr, hml, hown, hts, hlk, hnm, hK, hAm, hN⟩ := hC
  obtain ⟨a, xs, rfl, hc, hi, rfl⟩ := gA_spec h
  exact va_iald hx hb hK hP a 0 (jw_get hc) rfl hi hd kk
theorem J_iast {o : Option Nat} {i x : Int32} {ah' : AH} (hd : decode md.2.1 pc = .ok (.iastore, 1)) (h : sA ah o i x = some ah') (k : J l g md R Q (pc + 1) ls st ah' cs) : J l g md R Q pc ls (.inl x :: .inl i :: .inr (.inr (.inl o)) :: st) ah cs := by
  intro p e s m args below meth cd H locs la hC hz hP hS hl
  have hC0 := hC
  obtain ⟨hx, hb, hr, hml, hown, hts, hlk, hnm, hK, hAm, hN⟩ := hC
  obtain ⟨a, xs, rfl, hc, hi, rfl⟩ := sA_spec h
  refine va_iast hx hb hK hP (jw_D g ah) hS a 0 (jw_get hc) rfl hi hd fun H1 locs1 hP1 _ hS1 => ?_
  refine k p e s m args below meth cd H1 locs1 la hC0 (by rw [hz, List.length_set]) ?_ hS1 hl
  rw [jw_set, jce_set g xs _ x (Nat.not_le.mp fun q => hi (Or.inr q))]
  exact hP1
theorem J_alen {o : Option Nat} {x : Int32} (hd : decode md.2.1 pc = .ok (.arraylength, 1)) (h : lA ah o = some x) (k : J l g md R Q (pc + 1) ls (.inl x :: st) ah cs) : J l g md R Q pc ls (.inr (.inr (.inl o)) :: st) ah cs := by
  intro p e s m args below meth cd H locs la hC hz hP hS hl
  have kk := k p e s m args below meth cd H locs la hC hz hP hS hl
  obtain ⟨hx, hb, hr, hml, hown, hts, hlk, hnm, hK, hAm, hN⟩ := hC
  unfold lA at h
  split at h
  · cases h
  · rename_i a
    split at h
    · rename_i xs hc
      cases h
      exact va_alen hx hb hK hP a 0 (jw_get hc) (ty := .int) rfl rfl hd kk
    · rename_i t rs hc
      cases h
      by_cases ht : t = 0
      · subst ht
        exact va_alen hx hb hK hP a 1 (jw_get hc) (ty := .object "EnemyByLot$Line") rfl rfl hd kk
      · refine va_alen hx hb hK hP a 2 (jw_get hc) (ty := .object "EnemyByLot$Town") ?_ rfl hd kk
        show some ((jC g).2.2, _) = _
        rw [if_neg ht]
    · cases h
theorem J_aald {o x : Option Nat} {i : Int32} (hd : decode md.2.1 pc = .ok (.aaload, 1)) (h : gE ah o i = some x) (k : J l g md R Q (pc + 1) ls (.inr (.inr (.inl x)) :: st) ah cs) : J l g md R Q pc ls (.inl i :: .inr (.inr (.inl o)) :: st) ah cs := by
  intro p e s m args below meth cd H locs la hC hz hP hS hl
  have kk := k p e s m args below meth cd H locs la hC hz hP hS hl
  obtain ⟨hx, hb, hr, hml, hown, hts, hlk, hnm, hK, hAm, hN⟩ := hC
  unfold gE at h
  split at h
  · cases h
  · rename_i a
    split at h
    · rename_i t rs hc
      split at h
      · cases h
      · rename_i hi
        have h1 := (List.getElem?_eq_some_iff.mp h).1
        have hin : vp_in i rs.length := fun q => by
          rcases q with q | q
          · exact hi q
          · omega
        have hv : va_rf ((rs.getD i.toNatClampNeg none).map (fun k => jN g + k)) = jcv g (.inr (.inr (.inl x))) := by
          rw [List.getD_eq_getElem?_getD, h]
          cases x <;> rfl
        by_cases ht : t = 0
        · subst ht
          refine va_aldq (C := "EnemyByLot$Line") hx hb hK hP a 1 (jw_get hc) rfl hin hd ?_
          rw [hv]
          exact kk
        · refine va_aldq (C := "EnemyByLot$Town") hx hb hK hP a 2 (jw_get hc) ?_ hin hd ?_
          · show some ((jC g).2.2, _) = _
            rw [if_neg ht]
          · rw [hv]
            exact kk
    · cases h
theorem jce_setE (g : GX) (t : Nat) (rs : List (Option Nat)) (i k : Nat) (h : i < rs.length) : jce g (.inr (.inl (t, rs.set i (some k)))) = .inl (if t = 0 then (jC g).2.1 else (jC g).2.2, rs.length, .inr (.inr (.inr (.inr (va_up (fun j => (rs.getD j none).map (fun k => jN g + k)) i (some (jN g + k))))))) := by
  have e : (fun j => ((rs.set i (some k)).getD j none).map (fun k => jN g + k)) = va_up (fun j => (rs.getD j none).map (fun k => jN g + k)) i (some (jN g + k)) := by
    funext j
    simp only [List.getD_eq_getElem?_getD, List.getElem?_set, va_up]
    by_cases hj : i = j
    · subst hj
      simp [h]
    · simp [hj, Ne.symm hj]
  simp only [jce, List.length_set]
  rw [e]
theorem J_aast {o v : Option Nat} {i : Int32} {ah' : AH} (hd : decode md.2.1 pc = .ok (.aastore, 1)) (h : sE ah o i v = some ah') (k : J l g md R Q (pc + 1) ls st ah' cs) : J l g md R Q pc ls (.inr (.inr (.inl v)) :: .inl i :: .inr (.inr (.inl o)) :: st) ah cs := by
  intro p e s m args below meth cd H locs la hC hz hP hS hl
  have hC0 := hC
  obtain ⟨hx, hb, hr, hml, hown, hts, hlk, hnm, hK, hAm, hN⟩ := hC
  unfold sE at h
  split at h
  · rename_i a a2
    split at h
    · rename_i t rs ci fs hc hc2
      split at h
      · rename_i hq
        obtain ⟨⟨q1, q2⟩, q3⟩ := hq
        cases h
        have hin : vp_in i rs.length := fun q => by
          rcases q with q | q
          · exact q1 q
          · omega
        have fin : ∀ (H1 : Heap) (locs1 : List Loc), va_P (jD g) jj_cl ((jw g ah).set a (jN g + a, .inl (if t = 0 then (jC g).2.1 else (jC g).2.2, rs.length, .inr (.inr (.inr (.inr (va_up (fun j => (rs.getD j none).map (fun k => jN g + k)) i.toNatClampNeg (some (jN g + a2))))))))) H1 → va_D (jA g) ((jw g ah).set a (jN g + a, .inl (if t = 0 then (jC g).2.1 else (jC g).2.2, rs.length, .inr (.inr (.inr (.inr (va_up (fun j => (rs.getD j none).map (fun k => jN g + k)) i.toNatClampNeg (some (jN g + a2))))))))) → va_S (jA g) s.heap H1 locs1 → W p l e R s m args below meth cd H1 locs1 cs.1 cs.2 (Q below args s) (F0 m (pc + 1) la (st.map (jcv g))) := by
          intro H1 locs1 hP1 _ hS1
          refine k p e s m args below meth cd H1 locs1 la hC0 (by rw [hz, List.length_set]) ?_ hS1 hl
          rw [jw_set, jce_setE g t rs _ a2 q2]
          exact hP1
        rcases q3 with ⟨rfl, rfl⟩ | ⟨rfl, rfl⟩
        · exact va_astq hx hb hK hP (jw_D g ah) hS a 1 a2 2 (r := (RX2, TX2, 2)) (jw_get hc) rfl (jw_get hc2) rfl hin hd fin
        · exact va_astq hx hb hK hP (jw_D g ah) hS a 2 a2 4 (r := (RX4, TX4, 5)) (jw_get hc) rfl (jw_get hc2) rfl hin hd fin
      · cases h
    · cases h
  · cases h
theorem J_gets {idx : Nat} {host : String} (hd : decode md.2.1 pc = .ok (.getstatic idx, 3)) (hs : Cond.fieldLinkNest md.1.cls idx "EnemyByLot" "LETTERS" "[I" host ∈ lw_tbl) (k : J l g md R Q (pc + 3) ls (.inr (.inr (.inr true)) :: st) ah cs) : J l g md R Q pc ls st ah cs := by
  intro p e s m args below meth cd H locs la hC hz hP hS hl
  have kk := k p e s m args below meth cd H locs la hC hz hP hS hl
  obtain ⟨hx, hb, hr, hml, hown, hts, hlk, hnm, hK, hAm, hN⟩ := hC
  exact va_getsN hx hb hAm.2.2.1 hS hown (va_Nw.use rfl (hAm.2.2.2.2.1 _ _ _ _ _ _ hs)) (fun _ h => h) hd kk
theorem J_tlen (hd : decode md.2.1 pc = .ok (.arraylength, 1)) (k : J l g md R Q (pc + 1) ls (.inl 6 :: st) ah cs) : J l g md R Q pc ls (.inr (.inr (.inr true)) :: st) ah cs := by
  intro p e s m args below meth cd H locs la hC hz hP hS hl
  have kk := k p e s m args below meth cd H locs la hC hz hP hS hl
  obtain ⟨hx, hb, hr, hml, hown, hts, hlk, hnm, hK, hAm, hN⟩ := hC
  exact va_tlen hx hb hAm.2.2.2.1 hS rfl hd kk
theorem J_tget {i x : Int32} (hd : decode md.2.1 pc = .ok (.iaload, 1)) (h : gT i = some x) (k : J l g md R Q (pc + 1) ls (.inl x :: st) ah cs) : J l g md R Q pc ls (.inl i :: .inr (.inr (.inr true)) :: st) ah cs := by
  intro p e s m args below meth cd H locs la hC hz hP hS hl
  have kk := k p e s m args below meth cd H locs la hC hz hP hS hl
  obtain ⟨hx, hb, hr, hml, hown, hts, hlk, hnm, hK, hAm, hN⟩ := hC
  unfold gT at h
  split at h
  · rename_i hq
    cases h
    refine va_ti hx hb hAm.2.2.2.1 hS (fun q => ?_) rfl hd kk
    rcases q with q | q
    · exact hq.1 q
    · have := hq.2
      omega
  · cases h
theorem J_slen (hd : decode md.2.1 pc = .ok (.arraylength, 1)) (k : J l g md R Q (pc + 1) ls (.inl (Int32.ofNat (jL g)) :: st) ah cs) : J l g md R Q pc ls (.inr (.inr (.inr false)) :: st) ah cs := by
  intro p e s m args below meth cd H locs la hC hz hP hS hl
  have kk := k p e s m args below meth cd H locs la hC hz hP hS hl
  obtain ⟨hx, hb, hr, hml, hown, hts, hlk, hnm, hK, hAm, hN⟩ := hC
  have h1 := hAm.2.1
  exact va_slen hx hb hAm.1 (by omega) (fun q => by have : jN g ≤ jb g := q; omega) hS hd kk
theorem J_sget {i x : Int32} (hd : decode md.2.1 pc = .ok (.iaload, 1)) (h : gS g i = some x) (k : J l g md R Q (pc + 1) ls (.inl x :: st) ah cs) : J l g md R Q pc ls (.inl i :: .inr (.inr (.inr false)) :: st) ah cs := by
  intro p e s m args below meth cd H locs la hC hz hP hS hl
  have kk := k p e s m args below meth cd H locs la hC hz hP hS hl
  obtain ⟨hx, hb, hr, hml, hown, hts, hlk, hnm, hK, hAm, hN⟩ := hC
  have h1 := hAm.2.1
  unfold gS at h
  split at h
  · rename_i hq
    cases h
    refine va_sld hx hb hAm.1 (by omega) (fun q => by have : jN g ≤ jb g := q; omega) hS (fun q => ?_) hd kk
    rcases q with q | q
    · exact hq.1 q
    · have := hq.2
      omega
  · cases h
end
end
section
/-! ===== branches, division, constants, making, calls, returns ===== -/
section
variable {l : Launch} {g : GX} {md : MD} {R : Room} {Q : jQ} {pc : Nat} {ls : List (Nat × AV)} {st : List AV} {ah : AH} {cs : Nat × Nat}
theorem J_eq0 {x : Int32} {off : Int} {tgt : Nat} (hd : decode md.2.1 pc = .ok (.ifCond .eq off, 3)) (ht : (pc : Int) + off = (tgt : Int)) (kt : x = 0 → J l g md R Q tgt ls st ah cs) (kf : ¬ x = 0 → J l g md R Q (pc + 3) ls st ah cs) : J l g md R Q pc ls (.inl x :: st) ah cs := fun p e s m args below meth cd H locs la hC hz hP hS hl =>
  lv_if_eq hC.1 hC.2.1 hd ht (fun c => kt c p e s m args below meth cd H locs la hC hz hP hS hl) (fun c => kf c p e s m args below meth cd H locs la hC hz hP hS hl)
theorem J_ne0 {x : Int32} {off : Int} {tgt : Nat} (hd : decode md.2.1 pc = .ok (.ifCond .ne off, 3)) (ht : (pc : Int) + off = (tgt : Int)) (kt : ¬ x = 0 → J l g md R Q tgt ls st ah cs) (kf : x = 0 → J l g md R Q (pc + 3) ls st ah cs) : J l g md R Q pc ls (.inl x :: st) ah cs := fun p e s m args below meth cd H locs la hC hz hP hS hl =>
  lv_if_ne hC.1 hC.2.1 hd ht (fun c => kt c p e s m args below meth cd H locs la hC hz hP hS hl) (fun c => kf c p e s m args below meth cd H locs la hC hz hP hS hl)
theorem J_lt0 {x : Int32} {off : Int} {tgt : Nat} (hd : decode md.2.1 pc = .ok (.ifCond .lt off, 3)) (ht : (pc : Int) + off = (tgt : Int)) (kt : x < 0 → J l g md R Q tgt ls st ah cs) (kf : ¬ x < 0 → J l g md R Q (pc + 3) ls st ah cs) : J l g md R Q pc ls (.inl x :: st) ah cs := fun p e s m args below meth cd H locs la hC hz hP hS hl =>
  lv_if_lt hC.1 hC.2.1 hd ht (fun c => kt c p e s m args below meth cd H locs la hC hz hP hS hl) (fun c => kf c p e s m args below meth cd H locs la hC hz hP hS hl)
theorem J_ge0 {x : Int32} {off : Int} {tgt : Nat} (hd : decode md.2.1 pc = .ok (.ifCond .ge off, 3)) (ht : (pc : Int) + off = (tgt : Int)) (kt : 0 ≤ x → J l g md R Q tgt ls st ah cs) (kf : ¬ 0 ≤ x → J l g md R Q (pc + 3) ls st ah cs) : J l g md R Q pc ls (.inl x :: st) ah cs := fun p e s m args below meth cd H locs la hC hz hP hS hl =>
  lv_if_ge hC.1 hC.2.1 hd ht (fun c => kt c p e s m args below meth cd H locs la hC hz hP hS hl) (fun c => kf c p e s m args below meth cd H locs la hC hz hP hS hl)
theorem J_gt0 {x : Int32} {off : Int} {tgt : Nat} (hd : decode md.2.1 pc = .ok (.ifCond .gt off, 3)) (ht : (pc : Int) + off = (tgt : Int)) (kt : 0 < x → J l g md R Q tgt ls st ah cs) (kf : ¬ 0 < x → J l g md R Q (pc + 3) ls st ah cs) : J l g md R Q pc ls (.inl x :: st) ah cs := fun p e s m args below meth cd H locs la hC hz hP hS hl =>
  lv_if_gt hC.1 hC.2.1 hd ht (fun c => kt c p e s m args below meth cd H locs la hC hz hP hS hl) (fun c => kf c p e s m args below meth cd H locs la hC hz hP hS hl)
theorem J_le0 {x : Int32} {off : Int} {tgt : Nat} (hd : decode md.2.1 pc = .ok (.ifCond .le off, 3)) (ht : (pc : Int) + off = (tgt : Int)) (kt : x ≤ 0 → J l g md R Q tgt ls st ah cs) (kf : ¬ x ≤ 0 → J l g md R Q (pc + 3) ls st ah cs) : J l g md R Q pc ls (.inl x :: st) ah cs := fun p e s m args below meth cd H locs la hC hz hP hS hl =>
  lv_if_le hC.1 hC.2.1 hd ht (fun c => kt c p e s m args below meth cd H locs la hC hz hP hS hl) (fun c => kf c p e s m args below meth cd H locs la hC hz hP hS hl)
theorem J_eq {x y : Int32} {off : Int} {tgt : Nat} (hd : decode md.2.1 pc = .ok (.if_icmp .eq off, 3)) (ht : (pc : Int) + off = (tgt : Int)) (kt : x = y → J l g md R Q tgt ls st ah cs) (kf : ¬ x = y → J l g md R Q (pc + 3) ls st ah cs) : J l g md R Q pc ls (.inl y :: .inl x :: st) ah cs := fun p e s m args below meth cd H locs la hC hz hP hS hl =>
  lv_icmp_eq hC.1 hC.2.1 hd ht (fun c => kt c p e s m args below meth cd H locs la hC hz hP hS hl) (fun c => kf c p e s m args below meth cd H locs la hC hz hP hS hl)
theorem J_ne {x y : Int32} {off : Int} {tgt : Nat} (hd : decode md.2.1 pc = .ok (.if_icmp .ne off, 3)) (ht : (pc : Int) + off = (tgt : Int)) (kt : ¬ x = y → J l g md R Q tgt ls st ah cs) (kf : x = y → J l g md R Q (pc + 3) ls st ah cs) : J l g md R Q pc ls (.inl y :: .inl x :: st) ah cs := fun p e s m args below meth cd H locs la hC hz hP hS hl =>
  lv_icmp_ne hC.1 hC.2.1 hd ht (fun c => kt c p e s m args below meth cd H locs la hC hz hP hS hl) (fun c => kf c p e s m args below meth cd H locs la hC hz hP hS hl)
theorem J_lt {x y : Int32} {off : Int} {tgt : Nat} (hd : decode md.2.1 pc = .ok (.if_icmp .lt off, 3)) (ht : (pc : Int) + off = (tgt : Int)) (kt : x < y → J l g md R Q tgt ls st ah cs) (kf : ¬ x < y → J l g md R Q (pc + 3) ls st ah cs) : J l g md R Q pc ls (.inl y :: .inl x :: st) ah cs := fun p e s m args below meth cd H locs la hC hz hP hS hl =>
  lv_icmp_lt hC.1 hC.2.1 hd ht (fun c => kt c p e s m args below meth cd H locs la hC hz hP hS hl) (fun c => kf c p e s m args below meth cd H locs la hC hz hP hS hl)
theorem J_ge {x y : Int32} {off : Int} {tgt : Nat} (hd : decode md.2.1 pc = .ok (.if_icmp .ge off, 3)) (ht : (pc : Int) + off = (tgt : Int)) (kt : y ≤ x → J l g md R Q tgt ls st ah cs) (kf : ¬ y ≤ x → J l g md R Q (pc + 3) ls st ah cs) : J l g md R Q pc ls (.inl y :: .inl x :: st) ah cs := fun p e s m args below meth cd H locs la hC hz hP hS hl =>
  lv_icmp_ge hC.1 hC.2.1 hd ht (fun c => kt c p e s m args below meth cd H locs la hC hz hP hS hl) (fun c => kf c p e s m args below meth cd H locs la hC hz hP hS hl)
theorem J_gt {x y : Int32} {off : Int} {tgt : Nat} (hd : decode md.2.1 pc = .ok (.if_icmp .gt off, 3)) (ht : (pc : Int) + off = (tgt : Int)) (kt : y < x → J l g md R Q tgt ls st ah cs) (kf : ¬ y < x → J l g md R Q (pc + 3) ls st ah cs) : J l g md R Q pc ls (.inl y :: .inl x :: st) ah cs := fun p e s m args below meth cd H locs la hC hz hP hS hl =>
  lv_icmp_gt hC.1 hC.2.1 hd ht (fun c => kt c p e s m args below meth cd H locs la hC hz hP hS hl) (fun c => kf c p e s m args below meth cd H locs la hC hz hP hS hl)
theorem J_le {x y : Int32} {off : Int} {tgt : Nat} (hd : decode md.2.1 pc = .ok (.if_icmp .le off, 3)) (ht : (pc : Int) + off = (tgt : Int)) (kt : x ≤ y → J l g md R Q tgt ls st ah cs) (kf : ¬ x ≤ y → J l g md R Q (pc + 3) ls st ah cs) : J l g md R Q pc ls (.inl y :: .inl x :: st) ah cs := fun p e s m args below meth cd H locs la hC hz hP hS hl =>
  lv_icmp_le hC.1 hC.2.1 hd ht (fun c => kt c p e s m args below meth cd H locs la hC hz hP hS hl) (fun c => kf c p e s m args below meth cd H locs la hC hz hP hS hl)
theorem J_null {o : Option Nat} {off : Int} {tgt : Nat} (hd : decode md.2.1 pc = .ok (.ifnull off, 3)) (ht : (pc : Int) + off = (tgt : Int)) (kt : o = none → J l g md R Q tgt ls st ah cs) (kf : ¬ o = none → J l g md R Q (pc + 3) ls st ah cs) : J l g md R Q pc ls (.inr (.inr (.inl o)) :: st) ah cs := by
  intro p e s m args below meth cd H locs la hC hz hP hS hl
  cases o with
  | none => exact lv_ifnullN hC.1 hC.2.1 hd ht (kt rfl p e s m args below meth cd H locs la hC hz hP hS hl)
  | some a => exact lv_ifnull hC.1 hC.2.1 hd (kf (by simp) p e s m args below meth cd H locs la hC hz hP hS hl)
theorem J_nonnull {o : Option Nat} {off : Int} {tgt : Nat} (hd : decode md.2.1 pc = .ok (.ifnonnull off, 3)) (ht : (pc : Int) + off = (tgt : Int)) (kt : ¬ o = none → J l g md R Q tgt ls st ah cs) (kf : o = none → J l g md R Q (pc + 3) ls st ah cs) : J l g md R Q pc ls (.inr (.inr (.inl o)) :: st) ah cs := by
  intro p e s m args below meth cd H locs la hC hz hP hS hl
  cases o with
  | none => exact lv_ifnonnullN hC.1 hC.2.1 hd (kf rfl p e s m args below meth cd H locs la hC hz hP hS hl)
  | some a => exact lv_ifnonnull hC.1 hC.2.1 hd ht (kt (by simp) p e s m args below meth cd H locs la hC hz hP hS hl)
theorem J_tabIn {dflt lo hi : Int} {offs : Array Int} {len : Nat} {x : Int32} {off : Int} {tgt : Nat} (hd : decode md.2.1 pc = .ok (.tableswitch dflt lo hi offs, len)) (h1 : ¬ x.toInt < lo) (h2 : ¬ hi < x.toInt) (ho : offs[(x.toInt - lo).toNat]? = some off) (ht : (pc : Int) + off = (tgt : Int)) (k : J l g md R Q tgt ls st ah cs) : J l g md R Q pc ls (.inl x :: st) ah cs := fun p e s m args below meth cd H locs la hC hz hP hS hl =>
  lv_tableIn hC.1 hC.2.1 hd h1 h2 ho ht (k p e s m args below meth cd H locs la hC hz hP hS hl)
theorem J_tabOut {dflt lo hi : Int} {offs : Array Int} {len : Nat} {x : Int32} {tgt : Nat} (hd : decode md.2.1 pc = .ok (.tableswitch dflt lo hi offs, len)) (h : x.toInt < lo ∨ hi < x.toInt) (ht : (pc : Int) + dflt = (tgt : Int)) (k : J l g md R Q tgt ls st ah cs) : J l g md R Q pc ls (.inl x :: st) ah cs := fun p e s m args below meth cd H locs la hC hz hP hS hl =>
  lv_tableOut hC.1 hC.2.1 hd h ht (k p e s m args below meth cd H locs la hC hz hP hS hl)
theorem J_idiv {x y : Int32} (hd : decode md.2.1 pc = .ok (.idiv, 1)) (hy : ¬ y = 0) (k : J l g md R Q (pc + 1) ls (.inl (x / y) :: st) ah cs) : J l g md R Q pc ls (.inl y :: .inl x :: st) ah cs := fun p e s m args below meth cd H locs la hC hz hP hS hl =>
  lv_idiv hC.1 hC.2.1 hd hy (k p e s m args below meth cd H locs la hC hz hP hS hl)
theorem J_irem {x y : Int32} (hd : decode md.2.1 pc = .ok (.irem, 1)) (hy : ¬ y = 0) (k : J l g md R Q (pc + 1) ls (.inl (x - x / y * y) :: st) ah cs) : J l g md R Q pc ls (.inl y :: .inl x :: st) ah cs := fun p e s m args below meth cd H locs la hC hz hP hS hl =>
  lv_irem hC.1 hC.2.1 hd hy (k p e s m args below meth cd H locs la hC hz hP hS hl)
theorem J_ldiv {x y : Int64} (hd : decode md.2.1 pc = .ok (.ldiv, 1)) (hy : ¬ y = 0) (k : J l g md R Q (pc + 1) ls (.inr (.inl (x / y)) :: st) ah cs) : J l g md R Q pc ls (.inr (.inl y) :: .inr (.inl x) :: st) ah cs := fun p e s m args below meth cd H locs la hC hz hP hS hl =>
  lv_ldiv hC.1 hC.2.1 hd hy (k p e s m args below meth cd H locs la hC hz hP hS hl)
theorem J_lrem {x y : Int64} (hd : decode md.2.1 pc = .ok (.lrem, 1)) (hy : ¬ y = 0) (k : J l g md R Q (pc + 1) ls (.inr (.inl (x - x / y * y)) :: st) ah cs) : J l g md R Q pc ls (.inr (.inl y) :: .inr (.inl x) :: st) ah cs := fun p e s m args below meth cd H locs la hC hz hP hS hl =>
  lv_lrem hC.1 hC.2.1 hd hy (k p e s m args below meth cd H locs la hC hz hP hS hl)
theorem J_ldc2 {idx : Nat} {v : Int64} (hd : decode md.2.1 pc = .ok (.ldc2_w idx, 3)) (hc : Cond.constantLong md.1.cls idx v ∈ jBG) (k : J l g md R Q (pc + 3) ls (.inr (.inl v) :: st) ah cs) : J l g md R Q pc ls st ah cs := fun p e s m args below meth cd H locs la hC hz hP hS hl =>
  lv_ldc2 hC.1 hC.2.1 hC.2.2.2.2.1 (hC.2.2.2.2.2.1 _ hc) hd (k p e s m args below meth cd H locs la hC hz hP hS hl)
theorem J_ldcw {idx : Nat} {v : Int32} (hd : decode md.2.1 pc = .ok (.ldc_w idx, 3)) (hc : Cond.constant md.1.cls idx v ∈ jBG) (k : J l g md R Q (pc + 3) ls (.inl v :: st) ah cs) : J l g md R Q pc ls st ah cs := fun p e s m args below meth cd H locs la hC hz hP hS hl =>
  lv_ldcw hC.1 hC.2.1 hC.2.2.2.2.1 (hC.2.2.2.2.2.1 _ hc) hd (k p e s m args below meth cd H locs la hC hz hP hS hl)
/-! making -/
theorem jnew_q {s : State} {H1 : Heap} {x : va_E} {q n : Nat} (hN : jN g ≤ s.heap.size) (hz : s.heap.size + n = jN g + ah.length) (hP1 : va_P (jD g) jj_cl (jw g ah ++ [(q, x)]) H1) (hD1 : va_D (jA g) (jw g ah ++ [(q, x)])) (hs : H1.size ≤ s.heap.size + (n + 1)) : q = jN g + ah.length := by
  have h1 : (jw g ah ++ [(q, x)])[ah.length]? = some (q, x) := by
    rw [List.getElem?_append_right (by rw [jw_len]; exact Nat.le_refl _), jw_len, Nat.sub_self]
    rfl
  have h2 : q < H1.size := (hP1 _ _ h1).lt
  have h3 : jN g ≤ q := hD1.2 _ _ h1
  rcases Nat.lt_or_ge q (jN g + ah.length) with h4 | h4
  · have h5 : q - jN g < (jw g ah).length := by rw [jw_len]; omega
    have h6 : (jw g ah)[q - jN g]? = some ((jw g ah)[q - jN g]) := List.getElem?_eq_getElem h5
    have h7 := (jw_inv h6).1
    have h8 : (jw g ah ++ [(q, x)])[q - jN g]? = some ((jw g ah)[q - jN g]) := by rw [List.getElem?_append_left h5]; exact h6
    have h9 := hD1.1 _ _ _ _ h8 h1 (by rw [h7]; show jN g + (q - jN g) = q; omega)
    omega
  · omega
theorem J_new {c idx N : Nat} {C : String} {T : u_T} {fs : List AV} {cs' : Nat × Nat} (hd : decode md.2.1 pc = .ok (.new idx, 3)) (hc : jj_cl[c]? = some (C, T, N)) (hw : Cond.classLink md.1.cls idx C ∈ jBG) (hi : Cond.instantiable C N ∈ jBG) (hn : Cond.initialized C ∈ jBG) (ty0 : Nat → FieldType) (hty : ∀ k, k < N → parseFieldDescriptor (T k).2.2.1 = some (ty0 k)) (hfs : ∀ j, j < N → ∀ g : GX, defaultValue (ty0 j) = vp_V (fs.map (jcv g)) j)
    (hcs : cs' = (cs.1 + 1, cs.2 + N)) (hr : cs.1 + 1 ≤ R.cells ∧ cs.2 + N ≤ R.slots) (k : J l g md R Q (pc + 3) ls (.inr (.inr (.inl (some ah.length))) :: st) (ah ++ [.inr (.inr (c, fs))]) cs') : J l g md R Q pc ls st ah cs := by
  intro p e s m args below meth cd H locs la hC hz hP hS hl
  have hC0 := hC
  obtain ⟨hx, hb, hr0, hml, hown, hts, hlk, hnm, hK, hAm, hN⟩ := hC
  subst hcs
  refine va_new (ci := c) (fs := fs.map (jcv g)) hx hb hts (jPt_all hc).1 ty0 hty hown (hts _ hw) (hts _ hi) (hts _ hn) hK hP (jw_D g ah) hS (fun q h => Nat.le_trans hN h) hc (fun j hj => hfs j hj g) hr.1 hr.2 hd (fun q H1 hP1 hD1 hS1 => ?_)
  intro T1 hT1 X1
  have hq : q = jN g + ah.length := jnew_q hN hz hP1 hD1 (by rw [← hT1]; exact X1.heapSize)
  subst hq
  refine k p e s m args below meth cd H1 locs la hC0 ?_ ?_ hS1 hl T1 hT1 X1
  · simp only [List.length_append, List.length_singleton]
    omega
  · rw [jw_app]
    exact hP1
theorem J_newA {n : Int32} {cs' : Nat × Nat} (hd : decode md.2.1 pc = .ok (.newarray .int, 2)) (hn : ¬ n < 0) (hb2 : n.toNatClampNeg ≤ 100000) (hw : Cond.arrayClass .int ∈ jBG) (hcs : cs' = (cs.1 + 1, cs.2 + n.toNatClampNeg)) (hr : cs.1 + 1 ≤ R.cells ∧ cs.2 + n.toNatClampNeg ≤ R.slots)
    (k : J l g md R Q (pc + 2) ls (.inr (.inr (.inl (some ah.length))) :: st) (ah ++ [.inl (List.replicate n.toNatClampNeg 0)]) cs') : J l g md R Q pc ls (.inl n :: st) ah cs := by
  intro p e s m args below meth cd H locs la hC hz hP hS hl
  have hC0 := hC
  obtain ⟨hx, hb, hr0, hml, hown, hts, hlk, hnm, hK, hAm, hN⟩ := hC
  subst hcs
  refine va_newa (a0 := (n.toNatClampNeg, .inl (fun _ => 0))) (atype := .int) (ty := .int) hx hb (hts _ hw) rfl hK hP (jw_D g ah) hS (fun q h => Nat.le_trans hN h) (fun cA => rfl) hn rfl (by show n.toNatClampNeg * 4 ≤ _; omega) hr.1 hr.2 hd (fun q cA H1 hK1 hP1 hD1 hS1 => ?_)
  intro T1 hT1 X1
  have hq : q = jN g + ah.length := jnew_q hN hz hP1 hD1 (by rw [← hT1]; exact X1.heapSize)
  subst hq
  have hcA : cA = (jC g).1 := by
    have h1 : s.vm.findClass ("[" ++ (FieldType.int).toString) = some cA := (hK1.2 3 (cA, .int) rfl).2
    have h2 : s.vm.findClass ("[" ++ (FieldType.int).toString) = some (jC g).1 := (hK.2 0 ((jC g).1, .int) rfl).2
    rw [h1] at h2
    exact Option.some.inj h2
  subst hcA
  refine k p e s m args below meth cd H1 locs la hC0 ?_ ?_ hS1 hl T1 hT1 X1
  · simp only [List.length_append, List.length_singleton]
    omega
  · rw [jw_app]
    have e1 : jce g (.inl (List.replicate n.toNatClampNeg 0)) = .inl ((jC g).1, n.toNatClampNeg, .inl (fun _ => 0)) := by
      have e2 : (fun j => (List.replicate n.toNatClampNeg (0 : Int32)).getD j 0) = fun _ => 0 := by
        funext j
        rw [List.getD_eq_getElem?_getD, List.getElem?_replicate]
        split <;> rfl
      simp only [jce, List.length_replicate]
      rw [e2]
    rw [e1]
    exact hP1
/-- the classes of which there are arrays -/
def jEl (t : Nat) : String := if t = 0 then "EnemyByLot$Line" else "EnemyByLot$Town"
theorem J_newE {n : Int32} {t idx : Nat} {cs' : Nat × Nat} (hd : decode md.2.1 pc = .ok (.anewarray idx, 3)) (hn : ¬ n < 0) (hb2 : n.toNatClampNeg ≤ 100000) (hw : Cond.classLink md.1.cls idx (jEl t) ∈ jBG) (hcs : cs' = (cs.1 + 1, cs.2 + n.toNatClampNeg)) (hr : cs.1 + 1 ≤ R.cells ∧ cs.2 + n.toNatClampNeg ≤ R.slots)
    (k : J l g md R Q (pc + 3) ls (.inr (.inr (.inl (some ah.length))) :: st) (ah ++ [.inr (.inl (t, List.replicate n.toNatClampNeg none))]) cs') : J l g md R Q pc ls (.inl n :: st) ah cs := by
  intro p e s m args below meth cd H locs la hC hz hP hS hl
  have hC0 := hC
  obtain ⟨hx, hb, hr0, hml, hown, hts, hlk, hnm, hK, hAm, hN⟩ := hC
  subst hcs
  have hAO : va_AO (jEl t) s := by
    unfold jEl
    split
    · exact hAm.2.2.2.2.2.2.1
    · exact hAm.2.2.2.2.2.2.2
  refine va_newq hx hb hown (hts _ hw) hAO hK hP (jw_D g ah) hS (fun q h => Nat.le_trans hN h) hn rfl (by omega) hr.1 hr.2 hd (fun q cA H1 hK1 hP1 hD1 hS1 => ?_)
  intro T1 hT1 X1
  have hq : q = jN g + ah.length := jnew_q hN hz hP1 hD1 (by rw [← hT1]; exact X1.heapSize)
  subst hq
  have hcA : cA = if t = 0 then (jC g).2.1 else (jC g).2.2 := by
    obtain ⟨_, _, _, _, _, h1⟩ := (hK1.2 3 (cA, .object (jEl t)) rfl).2
    by_cases ht : t = 0
    · subst ht
      obtain ⟨_, _, _, _, _, h2⟩ := (hK.2 1 ((jC g).2.1, .object "EnemyByLot$Line") rfl).2
      exact Option.some.inj (h1.symm.trans h2)
    · have e2 : jEl t = "EnemyByLot$Town" := if_neg ht
      rw [e2] at h1
      obtain ⟨_, _, _, _, _, h2⟩ := (hK.2 2 ((jC g).2.2, .object "EnemyByLot$Town") rfl).2
      rw [if_neg ht]
      exact Option.some.inj (h1.symm.trans h2)
  subst hcA
  refine k p e s m args below meth cd H1 locs la hC0 ?_ ?_ hS1 hl T1 hT1 X1
  · simp only [List.length_append, List.length_singleton]
    omega
  · rw [jw_app]
    have e1 : jce g (.inr (.inl (t, List.replicate n.toNatClampNeg none))) = .inl (if t = 0 then (jC g).2.1 else (jC g).2.2, n.toNatClampNeg, .inr (.inr (.inr (.inr (fun _ => none))))) := by
      have e2 : (fun j => ((List.replicate n.toNatClampNeg (none : Option Nat)).getD j none).map (fun k => jN g + k)) = fun _ => none := by
        funext j
        rw [List.getD_eq_getElem?_getD, List.getElem?_replicate]
        split <;> rfl
      simp only [jce, List.length_replicate]
      rw [e2]
    rw [e1]
    exact hP1
/-! returns -/
theorem J_reti {x : Int32} {r : Option AV} {ah' : AH} {ty : FieldType} (hd : decode md.2.1 pc = .ok (.ireturn, 1)) (hr : md.2.2.2.1 = some ty) (hv : jPV ty (.inl x)) (h1 : cs.1 = md.2.2.2.2.1) (h2 : cs.2 ≤ md.2.2.2.2.2) (e1 : r = some (.inl x)) (e2 : ah' = ah) : J l g md R (jQm g md r ah') pc ls [.inl x] ah cs := by
  subst e1; subst e2
  intro p e s m args below meth cd H locs la hC hz hP hS hl
  obtain ⟨hx, hb, hr0, hml, hown, hts, hlk, hnm, hK, hAm, hN⟩ := hC
  refine W.widen (k := md.2.2.2.2.1) (n := md.2.2.2.2.2) (by omega) h2 ?_
  exact W.zret hx hb (hr0.trans hr) (hv g).1 (fun t ht hW => ⟨rfl, ⟨by rw [ht]; exact hP, va_K.moved hW.alike hK⟩, hS.F ht, by omega⟩) (fun q hq => hS.2.2 q hq) hd
theorem J_retl {x : Int64} {r : Option AV} {ah' : AH} (hd : decode md.2.1 pc = .ok (.lreturn, 1)) (hr : md.2.2.2.1 = some .long) (h1 : cs.1 = md.2.2.2.2.1) (h2 : cs.2 ≤ md.2.2.2.2.2) (e1 : r = some (.inr (.inl x))) (e2 : ah' = ah) : J l g md R (jQm g md r ah') pc ls [.inr (.inl x)] ah cs := by
  subst e1; subst e2
  intro p e s m args below meth cd H locs la hC hz hP hS hl
  obtain ⟨hx, hb, hr0, hml, hown, hts, hlk, hnm, hK, hAm, hN⟩ := hC
  refine W.widen (k := md.2.2.2.2.1) (n := md.2.2.2.2.2) (by omega) h2 ?_
  exact W.lret hx hb (hr0.trans hr) (fun t ht hW => ⟨rfl, ⟨by rw [ht]; exact hP, va_K.moved hW.alike hK⟩, hS.F ht, by omega⟩) (fun q hq => hS.2.2 q hq) hd
theorem J_reta {x : Option Nat} {r : Option AV} {ah' : AH} {C : String} (hd : decode md.2.1 pc = .ok (.areturn, 1)) (hr : md.2.2.2.1 = some (.object C)) (h1 : cs.1 = md.2.2.2.2.1) (h2 : cs.2 ≤ md.2.2.2.2.2) (e1 : r = some (.inr (.inr (.inl x)))) (e2 : ah' = ah) : J l g md R (jQm g md r ah') pc ls [.inr (.inr (.inl x))] ah cs := by
  subst e1; subst e2
  intro p e s m args below meth cd H locs la hC hz hP hS hl
  obtain ⟨hx, hb, hr0, hml, hown, hts, hlk, hnm, hK, hAm, hN⟩ := hC
  refine W.widen (k := md.2.2.2.2.1) (n := md.2.2.2.2.2) (by omega) h2 ?_
  exact W.aret hx hb (hr0.trans hr) (Or.inl ⟨_, rfl⟩) (by cases x with | none => exact Or.inl rfl | some a => exact Or.inr ⟨_, rfl⟩) (fun t ht hW => ⟨rfl, ⟨by rw [ht]; exact hP, va_K.moved hW.alike hK⟩, hS.F ht, by omega⟩) (fun q hq => hS.2.2 q hq) hd
theorem J_retv {r : Option AV} {ah' : AH} (hd : decode md.2.1 pc = .ok (.return_, 1)) (hr : md.2.2.2.1 = none) (h1 : cs.1 = md.2.2.2.2.1) (h2 : cs.2 ≤ md.2.2.2.2.2) (e1 : r = none) (e2 : ah' = ah) : J l g md R (jQm g md r ah') pc ls [] ah cs := by
  subst e1; subst e2
  intro p e s m args below meth cd H locs la hC hz hP hS hl
  obtain ⟨hx, hb, hr0, hml, hown, hts, hlk, hnm, hK, hAm, hN⟩ := hC
  refine W.widen (k := md.2.2.2.2.1) (n := md.2.2.2.2.2) (by omega) h2 ?_
  exact W.vret hx hb (hr0.trans hr) (fun t ht hW => ⟨rfl, ⟨by rw [ht]; exact hP, va_K.moved hW.alike hK⟩, hS.F ht, by omega⟩) (fun q hq => hS.2.2 q hq) hd
/-! calls -/
theorem jAm_moved {s U : State} {H : Heap} {locs : List Loc} (h : jAm g s s.heap) (hN : jN g ≤ s.heap.size) (hS : va_S (jA g) s.heap H locs) (hU : U.heap = H) (hW : s.WarmedH U.vm) : jAm g U U.heap := by
  obtain ⟨h1, h2, h3, h4, h5, h6, h7, h8⟩ := h
  have key : ∀ a : Nat, a < s.heap.size → ¬ jA g a → U.heap[a]? = s.heap[a]? := fun a ha hb => by rw [hU]; exact hS.2.1 a ha hb
  exact ⟨(h1.moved hW.alike).kept (key _ (by omega) (fun q => by have : jN g ≤ jb g := q; omega)), h2, (h3.moved hW.alike).kept key, (h4.moved hW.alike).kept key, fun a i b n d h hm => va_Nw.warmF hW (h5 a i b n d h hm), fun a i x h hm => va_Nw.warmM hW (h6 a i x h hm), h7.moved hW.alike, h8.moved hW.alike⟩
theorem jblind {av : List AV} : FrameBlind (va_Pc (av.map (jcv g)) (fun U => jU g ah U ∧ jAm g U U.heap)) := by
  intro a U fr mk h
  obtain ⟨h0, ⟨h1, h2, h3⟩, h4⟩ := h
  have hal : U.vm.Alike (U.calling fr mk a).vm := Vm.Alike.refl U.vm
  obtain ⟨k1, k2, k3, k4, k5, k6, k7, k8⟩ := h4
  exact ⟨h0, ⟨h1, h2, va_K.moved (u := U) (U := U.calling fr mk a) hal h3⟩, k1.moved hal, k2, k3.moved hal, k4.moved hal, fun a i b n d h hm => va_Nw.same rfl rfl (k5 a i b n d h hm), fun a i x h hm => va_Nw.same rfl rfl (k6 a i x h hm), k7.moved hal, k8.moved hal⟩
/-- what a call's run gives -/
theorem J_run_call {md' : MD} {r : Option AV} {ah1 : AH} {st' : List AV} {cs' : Nat × Nat} {p : Program} {e : Env} {s : State} {m : MethodId} {args : Array Value} {below : List Frame} {meth : Method} {c : Code} {H : Heap} {locs : List Loc} {la : Array Slot} {a : Array Value} {st0 : List Value} (hC : jCx g md p s m args meth c) (hz : s.heap.size + cs.1 = jN g + ah.length) (hP : va_P (jD g) jj_cl (jw g ah) H) (hS : va_S (jA g) s.heap H locs) (hl : lv_has la md.2.2.1 (ls.map fun q => (q.1, jcv g q.2)))
    (hcs : cs' = (cs.1 + md'.2.2.2.2.1, cs.2 + md'.2.2.2.2.2))
    (hr : va_Run p l e R s m args below meth c H locs cs.1 cs.2 md'.2.2.2.2.1 md'.2.2.2.2.2 (F0 m pc la st0) (st.map (jcv g)) (jQc g md'.2.2.2.2.1 r ah1 a) (jA g))
    (hst : st' = r.toList ++ st) (k : J l g md R Q (pc + 3) ls st' ah1 cs') : W p l e R s m args below meth c H locs cs.1 cs.2 (Q below args s) (F0 m pc la st0) := by
  intro T hT X
  have hN := hC.2.2.2.2.2.2.2.2.2.2
  have hsz := jsz X hT hz hP hS hN
  obtain ⟨v, st₀, t, T', L, h0, X', hL, e1, e2, hq, hgo⟩ := hr T hT X
  obtain ⟨q1, ⟨q2, q3⟩, q4, q5⟩ := hq
  cases q1
  subst hcs
  have hS' : va_S (jA g) s.heap T'.heap (locs ++ L) := by
    have hz4 := q4.1
    have hk4 := q4.2
    rw [h0] at hz4 hk4
    refine ⟨Nat.le_trans hS.1 (by rw [e1]; exact hz4), fun q h1 h2 => ?_, fun q hq => ?_⟩
    · rw [e1, hk4 q (Nat.lt_of_lt_of_le h1 hS.1) h2]
      exact hS.2.1 q h1 h2
    · rcases List.mem_append.mp hq with h | h
      · exact hS.2.2 q h
      · exact hL q h
  have hk := k p e s m args below meth c T'.heap (locs ++ L) la hC (by rw [h0] at q5; show s.heap.size + (cs.1 + _) = _; omega) (by rw [e1]; exact q2) hS' hl T' rfl X'
  obtain ⟨t2, a1, b1⟩ := hk
  refine ⟨t2, hgo t2 ?_, b1⟩
  have e3 : (st'.map (jcv g)) = (r.map (jcv g)).toList ++ st.map (jcv g) := by
    rw [hst, List.map_append]
    cases r <;> rfl
  rw [e3] at a1
  exact a1
end
end
section
/-! ===== the calls ===== -/
def jYw (md' : MD) (n : Nat) : Prop := Cond.code md'.1 md'.2.1 md'.2.2.1 md'.2.2.2.1 ∈ jBG ∧ Cond.initialized md'.1.cls ∈ jBG ∧ (md'.1.cls ≠ "java/lang/invoke/MethodHandle" ∧ md'.1.cls ≠ "java/lang/invoke/VarHandle" ∧ (parseMethodDescriptor md'.1.desc).map (fun d => d.parameters.length) = some n)
def jYV (md' : MD) (n c : Nat) : Prop := jYw md' n ∧ Cond.instanceMethod md'.1 ∈ jBG ∧ Cond.selects md'.1.cls md'.1 md'.1 ∈ jBG ∧ ∃ (T : u_T) (N : Nat), jj_cl[c]? = some (md'.1.cls, T, N)
def jYS (md' : MD) (n : Nat) : Prop := jYw md' n ∧ Cond.static md'.1 ∈ jBG
def jYI (md' : MD) (n : Nat) : Prop := jYw md' n ∧ Cond.instanceMethod md'.1 ∈ jBG ∧ md'.1.name = "<init>"
def jRo (d : Nat) (md' : MD) (R : Room) : Prop := (jRm d md').frames + 1 ≤ R.frames ∧ 8 + (md'.2.2.1 + 11) + (jRm d md').locals ≤ R.locals
theorem jRo_of {d : Nat} {md md' : MD} (h : md'.2.2.1 ≤ 45) : jRo d md' (jRm (d + 1) md) := by
  refine ⟨Nat.le_refl _, ?_⟩
  show 8 + (md'.2.2.1 + 11) + 64 * d ≤ 64 * (d + 1)
  omega
theorem jroom {g : GX} {m : MethodId} {pc : Nat} {la : Array Slot} {rest : List Value} {st : List AV} (h : jwd st ≤ 8) : 2 * (F0 m pc la rest).monitorRoom + ((st.map (jcv g)).map fun v => v.category).sum ≤ 8 := by
  refine lv_room ?_
  have e : ((st.map (jcv g)).map fun v => v.category).sum = jwd st := by
    induction st with
    | nil => rfl
    | cons v r ih =>
      have ih' := ih (by simp only [jwd, List.map_cons, List.sum_cons] at h ⊢; omega)
      simp only [jwd, List.map_cons, List.sum_cons] at ih' ⊢
      rw [ih']
      obtain x | x | (_ | x) | (_ | _) := v <;> rfl
  omega
section
variable {l : Launch} {g : GX} {md : MD} {R : Room} {Q : jQ} {pc : Nat} {ls : List (Nat × AV)} {st : List AV} {ah : AH} {cs : Nat × Nat}
theorem jmap_rev (As : List AV) (v : AV) (st : List AV) : (As.reverse ++ v :: st).map (jcv g) = (As.map (jcv g)).reverse ++ jcv g v :: st.map (jcv g) := by
  rw [List.map_append, List.map_reverse]
  rfl
theorem J_callV {md' : MD} {d c idx : Nat} {o : Option Nat} {As stk st' : List AV} {r : Option AV} {ah1 : AH} {cs' : Nat × Nat} (hd : decode md.2.1 pc = .ok (.invokevirtual idx, 3)) (hlk : Cond.methodLink md.1.cls idx md'.1 ∈ jBG) (hy : jYV md' As.length c) (ho : qO ah o c = true) (hM : jM l g d md' (.inr (.inr (.inl o)) :: As) ah r ah1)
    (hR : jRo d md' R) (hw : jwd st ≤ 8) (hf : cs.1 + md'.2.2.2.2.1 ≤ R.cells ∧ cs.2 + md'.2.2.2.2.2 ≤ R.slots) (hcs : cs' = (cs.1 + md'.2.2.2.2.1, cs.2 + md'.2.2.2.2.2)) (hstk : stk = As.reverse ++ .inr (.inr (.inl o)) :: st) (hst : st' = r.toList ++ st) (k : J l g md R Q (pc + 3) ls st' ah1 cs') : J l g md R Q pc ls stk ah cs := by
  subst hstk
  intro p e s m args below meth cd H locs la hC hz hP hS hl
  have hC0 := hC
  obtain ⟨hx, hb, hr0, hml, hown, hts, hlk0, hnm, hK, hAm, hN⟩ := hC
  unfold qO at ho
  split at ho
  · cases ho
  · rename_i a
    split at ho
    · rename_i c' fs hc
      have hcc : c' = c := by simpa using ho
      subst hcc
      obtain ⟨⟨y1, y2, y3⟩, y4, y5, T, N, y6⟩ := hy
      intro T0 hT X
      have hsz := jsz X hT hz hP hS hN
      have hG : GoodIn (Cond.tt :: jBG) (jWs md') := jBG_good y1
      have hts' : ∀ w ∈ Cond.tt :: jBG, w.before args s = true := fun w hw => by
        rcases List.mem_cons.mp hw with rfl | hw
        · rfl
        · exact hts w hw
      rw [jmap_rev]
      have hpre : PreV s H md'.1.cls (jN g + a) (va_Pc (((.inr (.inr (.inl (some a))) : AV) :: As).map (jcv g)) (fun U => jU g ah U ∧ jAm g U U.heap)) (As.map (jcv g)) :=
        ⟨jblind, va_recv hK hP y6 (jw_get hc), fun U hU hW => ⟨rfl, ⟨by rw [hU]; exact hsz, by rw [hU]; exact hP, va_K.moved hW.alike hK⟩, jAm_moved hAm hN hS hU hW⟩⟩
      have hrun := va_runV (l := l) (e := e) (R := R) (below := below) (meth := meth) (locs := locs) (cells := cs.1) (slots := cs.2) (As := As.map (jcv g)) (rest := st.map (jcv g)) (g := F0 m pc la ((As.map (jcv g)).reverse ++ .ref (jN g + a) :: st.map (jcv g))) ⟨hx, hb, hml, hown, hts'⟩ hM ⟨callB_of As.length hts' hG rfl rfl rfl (hts _ y2) (hts _ hlk) y3 hR, hts _ y4, hts _ y5⟩ hpre rfl (by rw [List.length_map]) hl.1 rfl (jroom hw) hd hf
      exact J_run_call hC0 hz hP hS hl hcs hrun hst k T0 hT X
    · cases ho
theorem jmap_rev0 (As st : List AV) : (As.reverse ++ st).map (jcv g) = (As.map (jcv g)).reverse ++ st.map (jcv g) := by
  rw [List.map_append, List.map_reverse]
theorem J_callS {md' : MD} {d idx : Nat} {As stk st' : List AV} {r : Option AV} {ah1 : AH} {cs' : Nat × Nat} (hd : decode md.2.1 pc = .ok (.invokestatic idx, 3)) (hlk : Cond.methodLink md.1.cls idx md'.1 ∈ jBG ∨ ∃ host, Cond.methodLinkNest md.1.cls idx md'.1 host ∈ lw_tbl) (hy : jYS md' As.length) (hM : jM l g d md' As ah r ah1)
    (hR : jRo d md' R) (hw : jwd st ≤ 8) (hf : cs.1 + md'.2.2.2.2.1 ≤ R.cells ∧ cs.2 + md'.2.2.2.2.2 ≤ R.slots) (hcs : cs' = (cs.1 + md'.2.2.2.2.1, cs.2 + md'.2.2.2.2.2)) (hstk : stk = As.reverse ++ st) (hst : st' = r.toList ++ st) (k : J l g md R Q (pc + 3) ls st' ah1 cs') : J l g md R Q pc ls stk ah cs := by
  subst hstk
  intro p e s m args below meth cd H locs la hC hz hP hS hl
  have hC0 := hC
  obtain ⟨hx, hb, hr0, hml, hown, hts, hlk0, hnm, hK, hAm, hN⟩ := hC
  obtain ⟨⟨y1, y2, y3⟩, y4⟩ := hy
  intro T0 hT X
  have hsz := jsz X hT hz hP hS hN
  have hG : GoodIn (Cond.tt :: jBG) (jWs md') := jBG_good y1
  have hts' : ∀ w ∈ Cond.tt :: jBG, w.before args s = true := fun w hw => by
    rcases List.mem_cons.mp hw with rfl | hw
    · rfl
    · exact hts w hw
  rw [jmap_rev0]
  have hpre : PreS s H (va_Pc (As.map (jcv g)) (fun U => jU g ah U ∧ jAm g U U.heap)) (As.map (jcv g)) :=
    ⟨jblind, fun U hU hW => ⟨rfl, ⟨by rw [hU]; exact hsz, by rw [hU]; exact hP, va_K.moved hW.alike hK⟩, jAm_moved hAm hN hS hU hW⟩⟩
  rcases hlk with hlk | ⟨host, hlk⟩
  · have hrun := va_runS (l := l) (e := e) (R := R) (below := below) (meth := meth) (locs := locs) (cells := cs.1) (slots := cs.2) (As := As.map (jcv g)) (rest := st.map (jcv g)) (g := F0 m pc la ((As.map (jcv g)).reverse ++ st.map (jcv g))) ⟨hx, hb, hml, hown, hts'⟩ hM ⟨callB_of As.length hts' hG rfl rfl rfl (hts _ y2) (hts _ hlk) y3 hR, hts _ y4⟩ hpre rfl (by rw [List.length_map]) hl.1 rfl (jroom hw) hd hf
    exact J_run_call hC0 hz hP hS hl hcs hrun hst k T0 hT X
  · have hrun := va_runSN (l := l) (e := e) (R := R) (below := below) (meth := meth) (locs := locs) (cells := cs.1) (slots := cs.2) (As := As.map (jcv g)) (rest := st.map (jcv g)) (g := F0 m pc la ((As.map (jcv g)).reverse ++ st.map (jcv g))) ⟨hx, hb, hml, hown, hts'⟩ hM ⟨va_cnB As.length hts' hG rfl rfl rfl (hAm.2.2.2.2.2.1 _ _ _ _ hlk) (hts _ y2) y3 hR, hts _ y4, trivial⟩ hpre rfl (by rw [List.length_map]) hl.1 rfl (jroom hw) hd hf
    exact J_run_call hC0 hz hP hS hl hcs hrun hst k T0 hT X
theorem J_callI {md' : MD} {d idx b : Nat} {As stk : List AV} {ah1 : AH} {cs' : Nat × Nat} (hd : decode md.2.1 pc = .ok (.invokespecial idx, 3)) (hlk : Cond.methodLink md.1.cls idx md'.1 ∈ jBG ∨ ∃ host, Cond.methodLinkNest md.1.cls idx md'.1 host ∈ lw_tbl) (hy : jYI md' As.length) (hret : md'.2.2.2.1 = none) (hM : jM l g d md' (.inr (.inr (.inl (some b))) :: As) ah none ah1)
    (hR : jRo d md' R) (hw : jwd st ≤ 8) (hf : cs.1 + md'.2.2.2.2.1 ≤ R.cells ∧ cs.2 + md'.2.2.2.2.2 ≤ R.slots) (hcs : cs' = (cs.1 + md'.2.2.2.2.1, cs.2 + md'.2.2.2.2.2)) (hstk : stk = As.reverse ++ .inr (.inr (.inl (some b))) :: st) (k : J l g md R Q (pc + 3) ls st ah1 cs') : J l g md R Q pc ls stk ah cs := by
  subst hstk
  intro p e s m args below meth cd H locs la hC hz hP hS hl
  have hC0 := hC
  obtain ⟨hx, hb, hr0, hml, hown, hts, hlk0, hnm, hK, hAm, hN⟩ := hC
  obtain ⟨⟨y1, y2, y3⟩, y4, y5⟩ := hy
  rw [hret] at y1
  intro T0 hT X
  have hsz := jsz X hT hz hP hS hN
  have hws : jWs md' = Cond.code md'.1 md'.2.1 md'.2.2.1 none :: jBG := by rw [jWs, hret]
  have hG : GoodIn (Cond.tt :: jBG) (jWs md') := by rw [hws]; exact jBG_good y1
  have hts' : ∀ w ∈ Cond.tt :: jBG, w.before args s = true := fun w hw => by
    rcases List.mem_cons.mp hw with rfl | hw
    · rfl
    · exact hts w hw
  rw [jmap_rev]
  have hpre : PreS s H (va_Pc (((.inr (.inr (.inl (some b))) : AV) :: As).map (jcv g)) (fun U => jU g ah U ∧ jAm g U U.heap)) (.ref (jN g + b) :: As.map (jcv g)) :=
    ⟨jblind, fun U hU hW => ⟨rfl, ⟨by rw [hU]; exact hsz, by rw [hU]; exact hP, va_K.moved hW.alike hK⟩, jAm_moved hAm hN hS hU hW⟩⟩
  rcases hlk with hlk | ⟨host, hlk⟩
  · have hrun := va_runI (l := l) (e := e) (R := R) (below := below) (meth := meth) (locs := locs) (cells := cs.1) (slots := cs.2) (b := jN g + b) (As := As.map (jcv g)) (rest := st.map (jcv g)) (g := F0 m pc la ((As.map (jcv g)).reverse ++ .ref (jN g + b) :: st.map (jcv g))) ⟨hx, hb, hml, hown, hts'⟩ hM ⟨callB_of As.length hts' hG hws rfl rfl (hts _ y2) (hts _ hlk) y3 hR, y5, hts _ y4⟩ hpre rfl (by rw [List.length_map]) hl.1 rfl (jroom hw) hd hf
    exact J_run_call (r := none) hC0 hz hP hS hl hcs hrun rfl k T0 hT X
  · have hrun := va_runIN (l := l) (e := e) (R := R) (below := below) (meth := meth) (locs := locs) (cells := cs.1) (slots := cs.2) (b := jN g + b) (As := As.map (jcv g)) (rest := st.map (jcv g)) (g := F0 m pc la ((As.map (jcv g)).reverse ++ .ref (jN g + b) :: st.map (jcv g))) ⟨hx, hb, hml, hown, hts'⟩ hM ⟨va_cnB As.length hts' hG hws rfl rfl (hAm.2.2.2.2.2.1 _ _ _ _ hlk) (hts _ y2) y3 hR, y5, hts _ y4⟩ hpre rfl (by rw [List.length_map]) hl.1 rfl (jroom hw) hd hf
    exact J_run_call (r := none) hC0 hz hP hS hl hcs hrun rfl k T0 hT X
/-- Object's constructor -/
theorem J_obj {idx b : Nat} (hd : decode md.2.1 pc = .ok (.invokespecial idx, 3)) (hlk : Cond.methodLink md.1.cls idx Lib.objectInit ∈ jBG) (hi : Cond.instanceMethod Lib.objectInit ∈ jBG) (hc : Cond.code Lib.objectInit ⟨#[0xb1]⟩ 1 none ∈ jBG) (hR : 1 ≤ R.frames ∧ 20 ≤ R.locals) (hw : jwd st ≤ 8) (k : J l g md R Q (pc + 3) ls st ah cs) : J l g md R Q pc ls (.inr (.inr (.inl (some b))) :: st) ah cs := by
  intro p e s m args below meth cd H locs la hC hz hP hS hl
  have kk := k p e s m args below meth cd H locs la hC hz hP hS hl
  obtain ⟨hx, hb, hr0, hml, hown, hts, hlk0, hnm, hK, hAm, hN⟩ := hC
  exact W.objInit hx hb hown (hts _ hlk) (hts _ hi) (hts _ hc) rfl (by rw [hml]; exact hl.1) rfl hd hR.1 (Nat.le_trans (Nat.add_le_add_right (jroom hw) 12) hR.2) kk
theorem jce_cp (g : GX) (xs ys : List Int32) (sp dp n : Nat) : jce g (.inl (cpL xs ys sp dp n)) = .inl ((jC g).1, ys.length, .inl (fun j => (cpL xs ys sp dp n).getD j 0)) := by
  simp only [jce, cpL, List.length_mapIdx]
theorem cpL_get {xs ys : List Int32} {sp dp n j : Nat} (h : dp + n ≤ ys.length) : (cpL xs ys sp dp n).getD j 0 = va_cpy (fun j => xs.getD j 0) (fun j => ys.getD j 0) sp dp n j := by
  simp only [cpL, va_cpy, List.getD_eq_getElem?_getD, List.getElem?_mapIdx]
  by_cases hj : j < ys.length
  · rw [List.getElem?_eq_getElem hj]
    simp only [Option.map_some, Option.getD_some]
  · rw [List.getElem?_eq_none (Nat.not_lt.mp hj)]
    simp only [Option.map_none, Option.getD_none]
    rw [if_neg (by omega)]
/-- System.arraycopy of ints -/
theorem J_cpy {idx : Nat} {o o' : Option Nat} {sp dp n : Int32} {ah' : AH} (hd : decode md.2.1 pc = .ok (.invokestatic idx, 3)) (hlk : Cond.methodLink md.1.cls idx arraycopyName ∈ jBG) (hi : Cond.native arraycopyName ∈ jBG ∧ Cond.static arraycopyName ∈ jBG ∧ Cond.initialized "java/lang/System" ∈ jBG) (hR : 1 ≤ R.frames ∧ 8 + (nativeFrameWords "java/lang/System" "arraycopy" 5 + 11) ≤ R.locals) (hw : jwd st ≤ 8) (h : cA ah o sp o' dp n = some ah') (k : J l g md R Q (pc + 3) ls st ah' cs) : J l g md R Q pc ls (.inl n :: .inl dp :: .inr (.inr (.inl o')) :: .inl sp :: .inr (.inr (.inl o)) :: st) ah cs := by
  intro p e s m args below meth cd H locs la hC hz hP hS hl
  have hC0 := hC
  obtain ⟨hx, hb, hr0, hml, hown, hts, hlk0, hnm, hK, hAm, hN⟩ := hC
  unfold cA at h
  split at h
  · rename_i a a'
    split at h
    · rename_i xs ys hc hc'
      split at h
      · rename_i hq
        obtain ⟨⟨q1, q2, q3⟩, q4, q5⟩ := hq
        cases h
        have h8 : 2 * (F0 m pc la ([] : List Value)).monitorRoom + ((st.map (jcv g)).map fun v => v.category).sum ≤ 8 := jroom hw
        refine va_copyi hx hb (by rw [hml]; exact hl.1.symm) hown (hts _ hlk) (hts _ hi.1) (hts _ hi.2.1) (hts _ hi.2.2) hK hP (jw_D g ah) hS a a' 0 0 (ty := .int) (jw_get hc) (jw_get hc') rfl rfl rfl q1 q2 q3 q4 q5 (fun i hi => rfl) hR.1 (by have := hR.2; omega) hd (fun H1 locs1 hP1 _ hS1 => ?_)
        refine k p e s m args below meth cd H1 locs1 la hC0 (by rw [hz, List.length_set]) ?_ hS1 hl
        rw [jw_set, jce_cp, show (fun j => (cpL xs ys sp.toNatClampNeg dp.toNatClampNeg n.toNatClampNeg).getD j 0) = va_cpy (fun j => xs.getD j 0) (fun j => ys.getD j 0) sp.toNatClampNeg dp.toNatClampNeg n.toNatClampNeg from funext fun j => cpL_get q5]
        exact hP1
      · cases h
    · cases h
  · cases h
theorem J_sub {ls' : List (Nat × AV)} (ks : List Nat) (h : ks.filterMap (fun k => ls[k]?) = ls') (k : J l g md R Q pc ls' st ah cs) : J l g md R Q pc ls st ah cs := fun p e s m args below meth cd H locs la hC hz hP hS hl =>
  k p e s m args below meth cd H locs la hC hz hP hS (lv_sub hl ks (by
    subst h
    simp only [lv_pick, List.map_filterMap, List.getElem?_map]))
end
/-! ===== loops as functions of a fuel ===== -/
def jfuel : Nat := 1000000
def jloop {S X T : Type} (body : S → AH → Option ((T × AH) ⊕ ((X × AH) ⊕ (S × AH)))) : Nat → S → AH → Option ((T × AH) ⊕ (X × AH))
  | 0, _, _ => none
  | n + 1, s, ah => match body s ah with
    | none => none
    | some (.inl r) => some (.inl r)
    | some (.inr (.inl x)) => some (.inr x)
    | some (.inr (.inr q)) => jloop body n q.1 q.2
theorem J_loop {S X T : Type} {body : S → AH → Option ((T × AH) ⊕ ((X × AH) ⊕ (S × AH)))} {l : Launch} {g : GX} {md : MD} {R : Room} {Q : jQ} {cs : Nat × Nat} {pH pE : Nat} {lh : S → List (Nat × AV)} {lx : X → List (Nat × AV)} {rv : T → Option AV}
    (hb : ∀ s ah out, body s ah = some out → (∀ q, out = .inl q → Q = jQm g md (rv q.1) q.2) → (∀ q, out = .inr (.inl q) → J l g md R Q pE (lx q.1) [] q.2 cs) → (∀ q, out = .inr (.inr q) → J l g md R Q pH (lh q.1) [] q.2 cs) → J l g md R Q pH (lh s) [] ah cs) :
    ∀ n s ah out, jloop body n s ah = some out → (∀ q, out = .inl q → Q = jQm g md (rv q.1) q.2) → (∀ q, out = .inr q → J l g md R Q pE (lx q.1) [] q.2 cs) → J l g md R Q pH (lh s) [] ah cs := by
  intro n
  induction n with
  | zero => intro s ah out h; cases h
  | succ n ih =>
    intro s ah out h hR hX
    rw [jloop] at h
    cases hq : body s ah with
    | none => rw [hq] at h; cases h
    | some o =>
      rw [hq] at h
      rcases o with r | x | q
      · cases h
        exact hb s ah _ hq (fun q e => hR q (by cases e; rfl)) (fun q e => by cases e) (fun q e => by cases e)
      · cases h
        exact hb s ah _ hq (fun q e => by cases e) (fun q e => hX q (by cases e; rfl)) (fun q e => by cases e)
      · refine hb s ah _ hq (fun q e => by cases e) (fun q e => by cases e) (fun q' e => ?_)
        cases e
        exact ih _ _ _ h hR hX
end

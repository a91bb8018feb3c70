section
-- ===== PART A: goes FIRST, ahead of the names: the tables' words, and 'selects' of the private methods out of them =====
/-- a private method of a class that the tables say can be made, by its rows of tables_1 -/
def lw_okq (q : MethodName × Nat) : Prop := (q.1.cls ≠ "java/lang/invoke/MethodHandle" ∧ q.1.cls ≠ "java/lang/invoke/VarHandle") ∧ Cond.instantiable q.1.cls q.2 ∈ tables_1 ∧ Cond.privateMethod q.1 ∈ tables_1 ∧ Cond.instanceMethod q.1 ∈ tables_1
theorem lw_p0 : lw_okq (⟨"EnemyByLot$Town", "slot", "(I)I"⟩, 5) := ⟨⟨by decide +kernel, by decide +kernel⟩, List.mem_of_getElem? (i := 34) (by decide +kernel), List.mem_of_getElem? (i := 147) (by decide +kernel), List.mem_of_getElem? (i := 148) (by decide +kernel)⟩
theorem lw_p1 : lw_okq (⟨"EnemyByLot", "find", "(I)I"⟩, 14) := ⟨⟨by decide +kernel, by decide +kernel⟩, List.mem_of_getElem? (i := 13) (by decide +kernel), List.mem_of_getElem? (i := 205) (by decide +kernel), List.mem_of_getElem? (i := 206) (by decide +kernel)⟩
theorem lw_p2 : lw_okq (⟨"EnemyByLot", "refusePlace", "(LEnemyByLot$Line;I)I"⟩, 14) := ⟨⟨by decide +kernel, by decide +kernel⟩, List.mem_of_getElem? (i := 13) (by decide +kernel), List.mem_of_getElem? (i := 228) (by decide +kernel), List.mem_of_getElem? (i := 229) (by decide +kernel)⟩
theorem lw_p3 : lw_okq (⟨"EnemyByLot$Reader", "readItem", "(LEnemyByLot$Line;ILEnemyByLot$Folk;)I"⟩, 1) := ⟨⟨by decide +kernel, by decide +kernel⟩, List.mem_of_getElem? (i := 23) (by decide +kernel), List.mem_of_getElem? (i := 299) (by decide +kernel), List.mem_of_getElem? (i := 300) (by decide +kernel)⟩
theorem lw_p4 : lw_okq (⟨"EnemyByLot$Reader", "readLove", "(LEnemyByLot$Line;ILEnemyByLot$Folk;)I"⟩, 1) := ⟨⟨by decide +kernel, by decide +kernel⟩, List.mem_of_getElem? (i := 23) (by decide +kernel), List.mem_of_getElem? (i := 304) (by decide +kernel), List.mem_of_getElem? (i := 305) (by decide +kernel)⟩
theorem lw_p5 : lw_okq (⟨"EnemyByLot$Reader", "readPerson", "(LEnemyByLot$Line;ILEnemyByLot$Folk;)I"⟩, 1) := ⟨⟨by decide +kernel, by decide +kernel⟩, List.mem_of_getElem? (i := 23) (by decide +kernel), List.mem_of_getElem? (i := 323) (by decide +kernel), List.mem_of_getElem? (i := 324) (by decide +kernel)⟩
theorem lw_p6 : lw_okq (⟨"EnemyByLot$Reader", "faultOfFoes", "(LEnemyByLot$Folk;)I"⟩, 1) := ⟨⟨by decide +kernel, by decide +kernel⟩, List.mem_of_getElem? (i := 23) (by decide +kernel), List.mem_of_getElem? (i := 339) (by decide +kernel), List.mem_of_getElem? (i := 340) (by decide +kernel)⟩
theorem lw_p7 : lw_okq (⟨"EnemyByLot", "trait", "(II)I"⟩, 14) := ⟨⟨by decide +kernel, by decide +kernel⟩, List.mem_of_getElem? (i := 13) (by decide +kernel), List.mem_of_getElem? (i := 354) (by decide +kernel), List.mem_of_getElem? (i := 355) (by decide +kernel)⟩
theorem lw_p8 : lw_okq (⟨"EnemyByLot", "hasReached", "(I)Z"⟩, 14) := ⟨⟨by decide +kernel, by decide +kernel⟩, List.mem_of_getElem? (i := 13) (by decide +kernel), List.mem_of_getElem? (i := 387) (by decide +kernel), List.mem_of_getElem? (i := 388) (by decide +kernel)⟩
theorem lw_p9 : lw_okq (⟨"EnemyByLot", "calmedBy", "(I)I"⟩, 14) := ⟨⟨by decide +kernel, by decide +kernel⟩, List.mem_of_getElem? (i := 13) (by decide +kernel), List.mem_of_getElem? (i := 408) (by decide +kernel), List.mem_of_getElem? (i := 409) (by decide +kernel)⟩
theorem lw_p10 : lw_okq (⟨"EnemyByLot", "weeksForNine", "(I)I"⟩, 14) := ⟨⟨by decide +kernel, by decide +kernel⟩, List.mem_of_getElem? (i := 13) (by decide +kernel), List.mem_of_getElem? (i := 426) (by decide +kernel), List.mem_of_getElem? (i := 427) (by decide +kernel)⟩
theorem lw_p11 : lw_okq (⟨"EnemyByLot", "owesDuty", "(I)Z"⟩, 14) := ⟨⟨by decide +kernel, by decide +kernel⟩, List.mem_of_getElem? (i := 13) (by decide +kernel), List.mem_of_getElem? (i := 430) (by decide +kernel), List.mem_of_getElem? (i := 431) (by decide +kernel)⟩
theorem lw_p12 : lw_okq (⟨"EnemyByLot", "isPair", "(II)Z"⟩, 14) := ⟨⟨by decide +kernel, by decide +kernel⟩, List.mem_of_getElem? (i := 13) (by decide +kernel), List.mem_of_getElem? (i := 438) (by decide +kernel), List.mem_of_getElem? (i := 439) (by decide +kernel)⟩
theorem lw_p13 : lw_okq (⟨"EnemyByLot", "refuseFolkRow", "(LEnemyByLot$Line;)I"⟩, 14) := ⟨⟨by decide +kernel, by decide +kernel⟩, List.mem_of_getElem? (i := 13) (by decide +kernel), List.mem_of_getElem? (i := 446) (by decide +kernel), List.mem_of_getElem? (i := 447) (by decide +kernel)⟩
theorem lw_p14 : lw_okq (⟨"EnemyByLot", "refuseRow", "(LEnemyByLot$Line;)I"⟩, 14) := ⟨⟨by decide +kernel, by decide +kernel⟩, List.mem_of_getElem? (i := 13) (by decide +kernel), List.mem_of_getElem? (i := 450) (by decide +kernel), List.mem_of_getElem? (i := 451) (by decide +kernel)⟩
theorem lw_p15 : lw_okq (⟨"EnemyByLot", "isAct", "(II)Z"⟩, 14) := ⟨⟨by decide +kernel, by decide +kernel⟩, List.mem_of_getElem? (i := 13) (by decide +kernel), List.mem_of_getElem? (i := 454) (by decide +kernel), List.mem_of_getElem? (i := 455) (by decide +kernel)⟩
def lw_privs_1 : List (MethodName × Nat) := [(⟨"EnemyByLot$Town", "slot", "(I)I"⟩, 5), (⟨"EnemyByLot", "find", "(I)I"⟩, 14), (⟨"EnemyByLot", "refusePlace", "(LEnemyByLot$Line;I)I"⟩, 14), (⟨"EnemyByLot$Reader", "readItem", "(LEnemyByLot$Line;ILEnemyByLot$Folk;)I"⟩, 1), (⟨"EnemyByLot$Reader", "readLove", "(LEnemyByLot$Line;ILEnemyByLot$Folk;)I"⟩, 1), (⟨"EnemyByLot$Reader", "readPerson", "(LEnemyByLot$Line;ILEnemyByLot$Folk;)I"⟩, 1), (⟨"EnemyByLot$Reader", "faultOfFoes", "(LEnemyByLot$Folk;)I"⟩, 1), (⟨"EnemyByLot", "trait", "(II)I"⟩, 14), (⟨"EnemyByLot", "hasReached", "(I)Z"⟩, 14), (⟨"EnemyByLot", "calmedBy", "(I)I"⟩, 14), (⟨"EnemyByLot", "weeksForNine", "(I)I"⟩, 14), (⟨"EnemyByLot", "owesDuty", "(I)Z"⟩, 14), (⟨"EnemyByLot", "isPair", "(II)Z"⟩, 14), (⟨"EnemyByLot", "refuseFolkRow", "(LEnemyByLot$Line;)I"⟩, 14), (⟨"EnemyByLot", "refuseRow", "(LEnemyByLot$Line;)I"⟩, 14), (⟨"EnemyByLot", "isAct", "(II)Z"⟩, 14)]
theorem lw_r1 : ∀ q ∈ lw_privs_1, lw_okq q := List.forall_mem_cons.mpr ⟨lw_p0, List.forall_mem_cons.mpr ⟨lw_p1, List.forall_mem_cons.mpr ⟨lw_p2, List.forall_mem_cons.mpr ⟨lw_p3, List.forall_mem_cons.mpr ⟨lw_p4, List.forall_mem_cons.mpr ⟨lw_p5, List.forall_mem_cons.mpr ⟨lw_p6, List.forall_mem_cons.mpr ⟨lw_p7, List.forall_mem_cons.mpr ⟨lw_p8, List.forall_mem_cons.mpr ⟨lw_p9, List.forall_mem_cons.mpr ⟨lw_p10, List.forall_mem_cons.mpr ⟨lw_p11, List.forall_mem_cons.mpr ⟨lw_p12, List.forall_mem_cons.mpr ⟨lw_p13, List.forall_mem_cons.mpr ⟨lw_p14, List.forall_mem_cons.mpr ⟨lw_p15, fun _ h => absurd h List.not_mem_nil⟩⟩⟩⟩⟩⟩⟩⟩⟩⟩⟩⟩⟩⟩⟩⟩
theorem lw_p16 : lw_okq (⟨"EnemyByLot", "passWeek", "()I"⟩, 14) := ⟨⟨by decide +kernel, by decide +kernel⟩, List.mem_of_getElem? (i := 13) (by decide +kernel), List.mem_of_getElem? (i := 458) (by decide +kernel), List.mem_of_getElem? (i := 459) (by decide +kernel)⟩
theorem lw_p17 : lw_okq (⟨"EnemyByLot", "reachedSet", "()I"⟩, 14) := ⟨⟨by decide +kernel, by decide +kernel⟩, List.mem_of_getElem? (i := 13) (by decide +kernel), List.mem_of_getElem? (i := 467) (by decide +kernel), List.mem_of_getElem? (i := 468) (by decide +kernel)⟩
theorem lw_p18 : lw_okq (⟨"EnemyByLot", "fineIdle", "()V"⟩, 14) := ⟨⟨by decide +kernel, by decide +kernel⟩, List.mem_of_getElem? (i := 13) (by decide +kernel), List.mem_of_getElem? (i := 471) (by decide +kernel), List.mem_of_getElem? (i := 472) (by decide +kernel)⟩
theorem lw_p19 : lw_okq (⟨"EnemyByLot", "shelfAt", "(I)LEnemyByLot$Town;"⟩, 14) := ⟨⟨by decide +kernel, by decide +kernel⟩, List.mem_of_getElem? (i := 13) (by decide +kernel), List.mem_of_getElem? (i := 498) (by decide +kernel), List.mem_of_getElem? (i := 499) (by decide +kernel)⟩
theorem lw_p20 : lw_okq (⟨"EnemyByLot", "ringOf", "(I)I"⟩, 14) := ⟨⟨by decide +kernel, by decide +kernel⟩, List.mem_of_getElem? (i := 13) (by decide +kernel), List.mem_of_getElem? (i := 514) (by decide +kernel), List.mem_of_getElem? (i := 515) (by decide +kernel)⟩
theorem lw_p21 : lw_okq (⟨"EnemyByLot", "lossOf", "(I)I"⟩, 14) := ⟨⟨by decide +kernel, by decide +kernel⟩, List.mem_of_getElem? (i := 13) (by decide +kernel), List.mem_of_getElem? (i := 526) (by decide +kernel), List.mem_of_getElem? (i := 527) (by decide +kernel)⟩
theorem lw_p22 : lw_okq (⟨"EnemyByLot", "fewestWeeks", "(II)I"⟩, 14) := ⟨⟨by decide +kernel, by decide +kernel⟩, List.mem_of_getElem? (i := 13) (by decide +kernel), List.mem_of_getElem? (i := 534) (by decide +kernel), List.mem_of_getElem? (i := 535) (by decide +kernel)⟩
theorem lw_p23 : lw_okq (⟨"EnemyByLot", "reachesThrough", "(III)Z"⟩, 14) := ⟨⟨by decide +kernel, by decide +kernel⟩, List.mem_of_getElem? (i := 13) (by decide +kernel), List.mem_of_getElem? (i := 549) (by decide +kernel), List.mem_of_getElem? (i := 550) (by decide +kernel)⟩
theorem lw_p24 : lw_okq (⟨"EnemyByLot", "isWish", "(II)Z"⟩, 14) := ⟨⟨by decide +kernel, by decide +kernel⟩, List.mem_of_getElem? (i := 13) (by decide +kernel), List.mem_of_getElem? (i := 557) (by decide +kernel), List.mem_of_getElem? (i := 558) (by decide +kernel)⟩
theorem lw_p25 : lw_okq (⟨"EnemyByLot$Atlas", "add", "(II)V"⟩, 5) := ⟨⟨by decide +kernel, by decide +kernel⟩, List.mem_of_getElem? (i := 58) (by decide +kernel), List.mem_of_getElem? (i := 577) (by decide +kernel), List.mem_of_getElem? (i := 578) (by decide +kernel)⟩
theorem lw_p26 : lw_okq (⟨"EnemyByLot", "strengthsIn", "(I)I"⟩, 14) := ⟨⟨by decide +kernel, by decide +kernel⟩, List.mem_of_getElem? (i := 13) (by decide +kernel), List.mem_of_getElem? (i := 583) (by decide +kernel), List.mem_of_getElem? (i := 584) (by decide +kernel)⟩
theorem lw_p27 : lw_okq (⟨"EnemyByLot", "isMapOfNow", "(LEnemyByLot$Line;)Z"⟩, 14) := ⟨⟨by decide +kernel, by decide +kernel⟩, List.mem_of_getElem? (i := 13) (by decide +kernel), List.mem_of_getElem? (i := 595) (by decide +kernel), List.mem_of_getElem? (i := 596) (by decide +kernel)⟩
theorem lw_p28 : lw_okq (⟨"EnemyByLot", "tell", "(JJ)I"⟩, 14) := ⟨⟨by decide +kernel, by decide +kernel⟩, List.mem_of_getElem? (i := 13) (by decide +kernel), List.mem_of_getElem? (i := 607) (by decide +kernel), List.mem_of_getElem? (i := 608) (by decide +kernel)⟩
theorem lw_p29 : lw_okq (⟨"EnemyByLot", "refuseDraw", "(II)I"⟩, 14) := ⟨⟨by decide +kernel, by decide +kernel⟩, List.mem_of_getElem? (i := 13) (by decide +kernel), List.mem_of_getElem? (i := 618) (by decide +kernel), List.mem_of_getElem? (i := 619) (by decide +kernel)⟩
theorem lw_p30 : lw_okq (⟨"EnemyByLot", "refuseWeeks", "(LEnemyByLot$Line;)I"⟩, 14) := ⟨⟨by decide +kernel, by decide +kernel⟩, List.mem_of_getElem? (i := 13) (by decide +kernel), List.mem_of_getElem? (i := 639) (by decide +kernel), List.mem_of_getElem? (i := 640) (by decide +kernel)⟩
theorem lw_p31 : lw_okq (⟨"EnemyByLot", "seekFits", "(LEnemyByLot$Line;)V"⟩, 14) := ⟨⟨by decide +kernel, by decide +kernel⟩, List.mem_of_getElem? (i := 13) (by decide +kernel), List.mem_of_getElem? (i := 643) (by decide +kernel), List.mem_of_getElem? (i := 644) (by decide +kernel)⟩
def lw_privs_2 : List (MethodName × Nat) := [(⟨"EnemyByLot", "passWeek", "()I"⟩, 14), (⟨"EnemyByLot", "reachedSet", "()I"⟩, 14), (⟨"EnemyByLot", "fineIdle", "()V"⟩, 14), (⟨"EnemyByLot", "shelfAt", "(I)LEnemyByLot$Town;"⟩, 14), (⟨"EnemyByLot", "ringOf", "(I)I"⟩, 14), (⟨"EnemyByLot", "lossOf", "(I)I"⟩, 14), (⟨"EnemyByLot", "fewestWeeks", "(II)I"⟩, 14), (⟨"EnemyByLot", "reachesThrough", "(III)Z"⟩, 14), (⟨"EnemyByLot", "isWish", "(II)Z"⟩, 14), (⟨"EnemyByLot$Atlas", "add", "(II)V"⟩, 5), (⟨"EnemyByLot", "strengthsIn", "(I)I"⟩, 14), (⟨"EnemyByLot", "isMapOfNow", "(LEnemyByLot$Line;)Z"⟩, 14), (⟨"EnemyByLot", "tell", "(JJ)I"⟩, 14), (⟨"EnemyByLot", "refuseDraw", "(II)I"⟩, 14), (⟨"EnemyByLot", "refuseWeeks", "(LEnemyByLot$Line;)I"⟩, 14), (⟨"EnemyByLot", "seekFits", "(LEnemyByLot$Line;)V"⟩, 14)]
theorem lw_r2 : ∀ q ∈ lw_privs_2, lw_okq q := List.forall_mem_cons.mpr ⟨lw_p16, List.forall_mem_cons.mpr ⟨lw_p17, List.forall_mem_cons.mpr ⟨lw_p18, List.forall_mem_cons.mpr ⟨lw_p19, List.forall_mem_cons.mpr ⟨lw_p20, List.forall_mem_cons.mpr ⟨lw_p21, List.forall_mem_cons.mpr ⟨lw_p22, List.forall_mem_cons.mpr ⟨lw_p23, List.forall_mem_cons.mpr ⟨lw_p24, List.forall_mem_cons.mpr ⟨lw_p25, List.forall_mem_cons.mpr ⟨lw_p26, List.forall_mem_cons.mpr ⟨lw_p27, List.forall_mem_cons.mpr ⟨lw_p28, List.forall_mem_cons.mpr ⟨lw_p29, List.forall_mem_cons.mpr ⟨lw_p30, List.forall_mem_cons.mpr ⟨lw_p31, fun _ h => absurd h List.not_mem_nil⟩⟩⟩⟩⟩⟩⟩⟩⟩⟩⟩⟩⟩⟩⟩⟩
theorem lw_p32 : lw_okq (⟨"EnemyByLot$Atlas", "victimsOf", "(II)I"⟩, 5) := ⟨⟨by decide +kernel, by decide +kernel⟩, List.mem_of_getElem? (i := 58) (by decide +kernel), List.mem_of_getElem? (i := 651) (by decide +kernel), List.mem_of_getElem? (i := 652) (by decide +kernel)⟩
theorem lw_p33 : lw_okq (⟨"EnemyByLot", "refuseFits", "(LEnemyByLot$Line;)I"⟩, 14) := ⟨⟨by decide +kernel, by decide +kernel⟩, List.mem_of_getElem? (i := 13) (by decide +kernel), List.mem_of_getElem? (i := 659) (by decide +kernel), List.mem_of_getElem? (i := 660) (by decide +kernel)⟩
theorem lw_p34 : lw_okq (⟨"EnemyByLot", "actByLot", "(IJ)I"⟩, 14) := ⟨⟨by decide +kernel, by decide +kernel⟩, List.mem_of_getElem? (i := 13) (by decide +kernel), List.mem_of_getElem? (i := 681) (by decide +kernel), List.mem_of_getElem? (i := 682) (by decide +kernel)⟩
theorem lw_p35 : lw_okq (⟨"EnemyByLot", "allFines", "()I"⟩, 14) := ⟨⟨by decide +kernel, by decide +kernel⟩, List.mem_of_getElem? (i := 13) (by decide +kernel), List.mem_of_getElem? (i := 703) (by decide +kernel), List.mem_of_getElem? (i := 704) (by decide +kernel)⟩
theorem lw_p36 : lw_okq (⟨"EnemyByLot", "zealots", "()I"⟩, 14) := ⟨⟨by decide +kernel, by decide +kernel⟩, List.mem_of_getElem? (i := 13) (by decide +kernel), List.mem_of_getElem? (i := 707) (by decide +kernel), List.mem_of_getElem? (i := 708) (by decide +kernel)⟩
theorem lw_p37 : lw_okq (⟨"EnemyByLot", "keptTowns", "()I"⟩, 14) := ⟨⟨by decide +kernel, by decide +kernel⟩, List.mem_of_getElem? (i := 13) (by decide +kernel), List.mem_of_getElem? (i := 714) (by decide +kernel), List.mem_of_getElem? (i := 715) (by decide +kernel)⟩
theorem lw_p38 : lw_okq (⟨"EnemyByLotModel", "find", "(I)I"⟩, 28) := ⟨⟨by decide +kernel, by decide +kernel⟩, List.mem_of_getElem? (i := 738) (by decide +kernel), List.mem_of_getElem? (i := 840) (by decide +kernel), List.mem_of_getElem? (i := 841) (by decide +kernel)⟩
theorem lw_p39 : lw_okq (⟨"EnemyByLotModel", "makeRow", "(II)V"⟩, 28) := ⟨⟨by decide +kernel, by decide +kernel⟩, List.mem_of_getElem? (i := 738) (by decide +kernel), List.mem_of_getElem? (i := 844) (by decide +kernel), List.mem_of_getElem? (i := 845) (by decide +kernel)⟩
theorem lw_p40 : lw_okq (⟨"EnemyByLotModel", "refused", "(II)I"⟩, 28) := ⟨⟨by decide +kernel, by decide +kernel⟩, List.mem_of_getElem? (i := 738) (by decide +kernel), List.mem_of_getElem? (i := 852) (by decide +kernel), List.mem_of_getElem? (i := 853) (by decide +kernel)⟩
theorem lw_p41 : lw_okq (⟨"EnemyByLotModel", "tell", "(I)I"⟩, 28) := ⟨⟨by decide +kernel, by decide +kernel⟩, List.mem_of_getElem? (i := 738) (by decide +kernel), List.mem_of_getElem? (i := 856) (by decide +kernel), List.mem_of_getElem? (i := 857) (by decide +kernel)⟩
theorem lw_p42 : lw_okq (⟨"EnemyByLotModel", "isSpan", "(III)Z"⟩, 28) := ⟨⟨by decide +kernel, by decide +kernel⟩, List.mem_of_getElem? (i := 738) (by decide +kernel), List.mem_of_getElem? (i := 872) (by decide +kernel), List.mem_of_getElem? (i := 873) (by decide +kernel)⟩
theorem lw_p43 : lw_okq (⟨"EnemyByLotModel", "faultOf", "(I)I"⟩, 28) := ⟨⟨by decide +kernel, by decide +kernel⟩, List.mem_of_getElem? (i := 738) (by decide +kernel), List.mem_of_getElem? (i := 896) (by decide +kernel), List.mem_of_getElem? (i := 897) (by decide +kernel)⟩
theorem lw_p44 : lw_okq (⟨"EnemyByLotModel", "skip", "()V"⟩, 28) := ⟨⟨by decide +kernel, by decide +kernel⟩, List.mem_of_getElem? (i := 738) (by decide +kernel), List.mem_of_getElem? (i := 900) (by decide +kernel), List.mem_of_getElem? (i := 901) (by decide +kernel)⟩
theorem lw_p45 : lw_okq (⟨"EnemyByLotModel", "here", "()I"⟩, 28) := ⟨⟨by decide +kernel, by decide +kernel⟩, List.mem_of_getElem? (i := 738) (by decide +kernel), List.mem_of_getElem? (i := 904) (by decide +kernel), List.mem_of_getElem? (i := 905) (by decide +kernel)⟩
theorem lw_p46 : lw_okq (⟨"EnemyByLotModel", "readsLove", "()Z"⟩, 28) := ⟨⟨by decide +kernel, by decide +kernel⟩, List.mem_of_getElem? (i := 738) (by decide +kernel), List.mem_of_getElem? (i := 908) (by decide +kernel), List.mem_of_getElem? (i := 909) (by decide +kernel)⟩
theorem lw_p47 : lw_okq (⟨"EnemyByLotModel", "figure", "(II)I"⟩, 28) := ⟨⟨by decide +kernel, by decide +kernel⟩, List.mem_of_getElem? (i := 738) (by decide +kernel), List.mem_of_getElem? (i := 912) (by decide +kernel), List.mem_of_getElem? (i := 913) (by decide +kernel)⟩
def lw_privs_3 : List (MethodName × Nat) := [(⟨"EnemyByLot$Atlas", "victimsOf", "(II)I"⟩, 5), (⟨"EnemyByLot", "refuseFits", "(LEnemyByLot$Line;)I"⟩, 14), (⟨"EnemyByLot", "actByLot", "(IJ)I"⟩, 14), (⟨"EnemyByLot", "allFines", "()I"⟩, 14), (⟨"EnemyByLot", "zealots", "()I"⟩, 14), (⟨"EnemyByLot", "keptTowns", "()I"⟩, 14), (⟨"EnemyByLotModel", "find", "(I)I"⟩, 28), (⟨"EnemyByLotModel", "makeRow", "(II)V"⟩, 28), (⟨"EnemyByLotModel", "refused", "(II)I"⟩, 28), (⟨"EnemyByLotModel", "tell", "(I)I"⟩, 28), (⟨"EnemyByLotModel", "isSpan", "(III)Z"⟩, 28), (⟨"EnemyByLotModel", "faultOf", "(I)I"⟩, 28), (⟨"EnemyByLotModel", "skip", "()V"⟩, 28), (⟨"EnemyByLotModel", "here", "()I"⟩, 28), (⟨"EnemyByLotModel", "readsLove", "()Z"⟩, 28), (⟨"EnemyByLotModel", "figure", "(II)I"⟩, 28)]
theorem lw_r3 : ∀ q ∈ lw_privs_3, lw_okq q := List.forall_mem_cons.mpr ⟨lw_p32, List.forall_mem_cons.mpr ⟨lw_p33, List.forall_mem_cons.mpr ⟨lw_p34, List.forall_mem_cons.mpr ⟨lw_p35, List.forall_mem_cons.mpr ⟨lw_p36, List.forall_mem_cons.mpr ⟨lw_p37, List.forall_mem_cons.mpr ⟨lw_p38, List.forall_mem_cons.mpr ⟨lw_p39, List.forall_mem_cons.mpr ⟨lw_p40, List.forall_mem_cons.mpr ⟨lw_p41, List.forall_mem_cons.mpr ⟨lw_p42, List.forall_mem_cons.mpr ⟨lw_p43, List.forall_mem_cons.mpr ⟨lw_p44, List.forall_mem_cons.mpr ⟨lw_p45, List.forall_mem_cons.mpr ⟨lw_p46, List.forall_mem_cons.mpr ⟨lw_p47, fun _ h => absurd h List.not_mem_nil⟩⟩⟩⟩⟩⟩⟩⟩⟩⟩⟩⟩⟩⟩⟩⟩
theorem lw_p48 : lw_okq (⟨"EnemyByLotModel", "readsPerson", "()Z"⟩, 28) := ⟨⟨by decide +kernel, by decide +kernel⟩, List.mem_of_getElem? (i := 738) (by decide +kernel), List.mem_of_getElem? (i := 919) (by decide +kernel), List.mem_of_getElem? (i := 920) (by decide +kernel)⟩
theorem lw_p49 : lw_okq (⟨"EnemyByLotModel", "areVictims", "()Z"⟩, 28) := ⟨⟨by decide +kernel, by decide +kernel⟩, List.mem_of_getElem? (i := 738) (by decide +kernel), List.mem_of_getElem? (i := 926) (by decide +kernel), List.mem_of_getElem? (i := 927) (by decide +kernel)⟩
theorem lw_p50 : lw_okq (⟨"EnemyByLotModel", "isPerson", "(I)Z"⟩, 28) := ⟨⟨by decide +kernel, by decide +kernel⟩, List.mem_of_getElem? (i := 738) (by decide +kernel), List.mem_of_getElem? (i := 938) (by decide +kernel), List.mem_of_getElem? (i := 939) (by decide +kernel)⟩
theorem lw_p51 : lw_okq (⟨"EnemyByLotModel", "toldOf", "(II)I"⟩, 28) := ⟨⟨by decide +kernel, by decide +kernel⟩, List.mem_of_getElem? (i := 738) (by decide +kernel), List.mem_of_getElem? (i := 943) (by decide +kernel), List.mem_of_getElem? (i := 944) (by decide +kernel)⟩
theorem lw_p52 : lw_okq (⟨"EnemyByLotModel", "victim", "(I)I"⟩, 28) := ⟨⟨by decide +kernel, by decide +kernel⟩, List.mem_of_getElem? (i := 738) (by decide +kernel), List.mem_of_getElem? (i := 947) (by decide +kernel), List.mem_of_getElem? (i := 948) (by decide +kernel)⟩
theorem lw_p53 : lw_okq (⟨"EnemyByLotModel", "foe", "(I)I"⟩, 28) := ⟨⟨by decide +kernel, by decide +kernel⟩, List.mem_of_getElem? (i := 738) (by decide +kernel), List.mem_of_getElem? (i := 951) (by decide +kernel), List.mem_of_getElem? (i := 952) (by decide +kernel)⟩
theorem lw_p54 : lw_okq (⟨"EnemyByLotModel", "isReached", "(I)Z"⟩, 28) := ⟨⟨by decide +kernel, by decide +kernel⟩, List.mem_of_getElem? (i := 738) (by decide +kernel), List.mem_of_getElem? (i := 955) (by decide +kernel), List.mem_of_getElem? (i := 956) (by decide +kernel)⟩
theorem lw_p55 : lw_okq (⟨"EnemyByLotModel", "isOf", "(II)Z"⟩, 28) := ⟨⟨by decide +kernel, by decide +kernel⟩, List.mem_of_getElem? (i := 738) (by decide +kernel), List.mem_of_getElem? (i := 963) (by decide +kernel), List.mem_of_getElem? (i := 964) (by decide +kernel)⟩
theorem lw_p56 : lw_okq (⟨"EnemyByLotModel", "plain", "(I)I"⟩, 28) := ⟨⟨by decide +kernel, by decide +kernel⟩, List.mem_of_getElem? (i := 738) (by decide +kernel), List.mem_of_getElem? (i := 967) (by decide +kernel), List.mem_of_getElem? (i := 968) (by decide +kernel)⟩
theorem lw_p57 : lw_okq (⟨"EnemyByLotModel", "saved", "(I)I"⟩, 28) := ⟨⟨by decide +kernel, by decide +kernel⟩, List.mem_of_getElem? (i := 738) (by decide +kernel), List.mem_of_getElem? (i := 971) (by decide +kernel), List.mem_of_getElem? (i := 972) (by decide +kernel)⟩
theorem lw_p58 : lw_okq (⟨"EnemyByLotModel", "strengthOf", "(II)I"⟩, 28) := ⟨⟨by decide +kernel, by decide +kernel⟩, List.mem_of_getElem? (i := 738) (by decide +kernel), List.mem_of_getElem? (i := 975) (by decide +kernel), List.mem_of_getElem? (i := 976) (by decide +kernel)⟩
theorem lw_p59 : lw_okq (⟨"EnemyByLotModel", "weeksForNine", "(I)I"⟩, 28) := ⟨⟨by decide +kernel, by decide +kernel⟩, List.mem_of_getElem? (i := 738) (by decide +kernel), List.mem_of_getElem? (i := 982) (by decide +kernel), List.mem_of_getElem? (i := 983) (by decide +kernel)⟩
theorem lw_p60 : lw_okq (⟨"EnemyByLotModel", "owes", "(II)Z"⟩, 28) := ⟨⟨by decide +kernel, by decide +kernel⟩, List.mem_of_getElem? (i := 738) (by decide +kernel), List.mem_of_getElem? (i := 986) (by decide +kernel), List.mem_of_getElem? (i := 987) (by decide +kernel)⟩
theorem lw_p61 : lw_okq (⟨"EnemyByLotModel", "areTwo", "(II)Z"⟩, 28) := ⟨⟨by decide +kernel, by decide +kernel⟩, List.mem_of_getElem? (i := 738) (by decide +kernel), List.mem_of_getElem? (i := 994) (by decide +kernel), List.mem_of_getElem? (i := 995) (by decide +kernel)⟩
theorem lw_p62 : lw_okq (⟨"EnemyByLotModel", "isWeek", "(I)Z"⟩, 28) := ⟨⟨by decide +kernel, by decide +kernel⟩, List.mem_of_getElem? (i := 738) (by decide +kernel), List.mem_of_getElem? (i := 1002) (by decide +kernel), List.mem_of_getElem? (i := 1003) (by decide +kernel)⟩
theorem lw_p63 : lw_okq (⟨"EnemyByLotModel", "pass", "()I"⟩, 28) := ⟨⟨by decide +kernel, by decide +kernel⟩, List.mem_of_getElem? (i := 738) (by decide +kernel), List.mem_of_getElem? (i := 1007) (by decide +kernel), List.mem_of_getElem? (i := 1008) (by decide +kernel)⟩
def lw_privs_4 : List (MethodName × Nat) := [(⟨"EnemyByLotModel", "readsPerson", "()Z"⟩, 28), (⟨"EnemyByLotModel", "areVictims", "()Z"⟩, 28), (⟨"EnemyByLotModel", "isPerson", "(I)Z"⟩, 28), (⟨"EnemyByLotModel", "toldOf", "(II)I"⟩, 28), (⟨"EnemyByLotModel", "victim", "(I)I"⟩, 28), (⟨"EnemyByLotModel", "foe", "(I)I"⟩, 28), (⟨"EnemyByLotModel", "isReached", "(I)Z"⟩, 28), (⟨"EnemyByLotModel", "isOf", "(II)Z"⟩, 28), (⟨"EnemyByLotModel", "plain", "(I)I"⟩, 28), (⟨"EnemyByLotModel", "saved", "(I)I"⟩, 28), (⟨"EnemyByLotModel", "strengthOf", "(II)I"⟩, 28), (⟨"EnemyByLotModel", "weeksForNine", "(I)I"⟩, 28), (⟨"EnemyByLotModel", "owes", "(II)Z"⟩, 28), (⟨"EnemyByLotModel", "areTwo", "(II)Z"⟩, 28), (⟨"EnemyByLotModel", "isWeek", "(I)Z"⟩, 28), (⟨"EnemyByLotModel", "pass", "()I"⟩, 28)]
theorem lw_r4 : ∀ q ∈ lw_privs_4, lw_okq q := List.forall_mem_cons.mpr ⟨lw_p48, List.forall_mem_cons.mpr ⟨lw_p49, List.forall_mem_cons.mpr ⟨lw_p50, List.forall_mem_cons.mpr ⟨lw_p51, List.forall_mem_cons.mpr ⟨lw_p52, List.forall_mem_cons.mpr ⟨lw_p53, List.forall_mem_cons.mpr ⟨lw_p54, List.forall_mem_cons.mpr ⟨lw_p55, List.forall_mem_cons.mpr ⟨lw_p56, List.forall_mem_cons.mpr ⟨lw_p57, List.forall_mem_cons.mpr ⟨lw_p58, List.forall_mem_cons.mpr ⟨lw_p59, List.forall_mem_cons.mpr ⟨lw_p60, List.forall_mem_cons.mpr ⟨lw_p61, List.forall_mem_cons.mpr ⟨lw_p62, List.forall_mem_cons.mpr ⟨lw_p63, fun _ h => absurd h List.not_mem_nil⟩⟩⟩⟩⟩⟩⟩⟩⟩⟩⟩⟩⟩⟩⟩⟩
theorem lw_p64 : lw_okq (⟨"EnemyByLotModel", "keepPast", "()V"⟩, 28) := ⟨⟨by decide +kernel, by decide +kernel⟩, List.mem_of_getElem? (i := 738) (by decide +kernel), List.mem_of_getElem? (i := 1011) (by decide +kernel), List.mem_of_getElem? (i := 1012) (by decide +kernel)⟩
theorem lw_p65 : lw_okq (⟨"EnemyByLotModel", "change", "(II)V"⟩, 28) := ⟨⟨by decide +kernel, by decide +kernel⟩, List.mem_of_getElem? (i := 738) (by decide +kernel), List.mem_of_getElem? (i := 1019) (by decide +kernel), List.mem_of_getElem? (i := 1020) (by decide +kernel)⟩
theorem lw_p66 : lw_okq (⟨"EnemyByLotModel", "copyTown", "(II)V"⟩, 28) := ⟨⟨by decide +kernel, by decide +kernel⟩, List.mem_of_getElem? (i := 738) (by decide +kernel), List.mem_of_getElem? (i := 1031) (by decide +kernel), List.mem_of_getElem? (i := 1032) (by decide +kernel)⟩
theorem lw_p67 : lw_okq (⟨"EnemyByLotModel", "ringOf", "(I)I"⟩, 28) := ⟨⟨by decide +kernel, by decide +kernel⟩, List.mem_of_getElem? (i := 738) (by decide +kernel), List.mem_of_getElem? (i := 1043) (by decide +kernel), List.mem_of_getElem? (i := 1044) (by decide +kernel)⟩
theorem lw_p68 : lw_okq (⟨"EnemyByLotModel", "against", "(I)I"⟩, 28) := ⟨⟨by decide +kernel, by decide +kernel⟩, List.mem_of_getElem? (i := 738) (by decide +kernel), List.mem_of_getElem? (i := 1055) (by decide +kernel), List.mem_of_getElem? (i := 1056) (by decide +kernel)⟩
theorem lw_p69 : lw_okq (⟨"EnemyByLotModel", "weeksOf", "(III)I"⟩, 28) := ⟨⟨by decide +kernel, by decide +kernel⟩, List.mem_of_getElem? (i := 738) (by decide +kernel), List.mem_of_getElem? (i := 1064) (by decide +kernel), List.mem_of_getElem? (i := 1065) (by decide +kernel)⟩
theorem lw_p70 : lw_okq (⟨"EnemyByLotModel", "isReachedBy", "(III)Z"⟩, 28) := ⟨⟨by decide +kernel, by decide +kernel⟩, List.mem_of_getElem? (i := 738) (by decide +kernel), List.mem_of_getElem? (i := 1077) (by decide +kernel), List.mem_of_getElem? (i := 1078) (by decide +kernel)⟩
theorem lw_p71 : lw_okq (⟨"EnemyByLotModel", "wish", "(II)Z"⟩, 28) := ⟨⟨by decide +kernel, by decide +kernel⟩, List.mem_of_getElem? (i := 738) (by decide +kernel), List.mem_of_getElem? (i := 1085) (by decide +kernel), List.mem_of_getElem? (i := 1086) (by decide +kernel)⟩
theorem lw_p72 : lw_okq (⟨"EnemyByLotModel", "victimsNow", "()I"⟩, 28) := ⟨⟨by decide +kernel, by decide +kernel⟩, List.mem_of_getElem? (i := 738) (by decide +kernel), List.mem_of_getElem? (i := 1093) (by decide +kernel), List.mem_of_getElem? (i := 1094) (by decide +kernel)⟩
theorem lw_p73 : lw_okq (⟨"EnemyByLotModel", "leftOf", "(I)I"⟩, 28) := ⟨⟨by decide +kernel, by decide +kernel⟩, List.mem_of_getElem? (i := 738) (by decide +kernel), List.mem_of_getElem? (i := 1097) (by decide +kernel), List.mem_of_getElem? (i := 1098) (by decide +kernel)⟩
theorem lw_p74 : lw_okq (⟨"EnemyByLotModel", "strengthsTried", "()I"⟩, 28) := ⟨⟨by decide +kernel, by decide +kernel⟩, List.mem_of_getElem? (i := 738) (by decide +kernel), List.mem_of_getElem? (i := 1101) (by decide +kernel), List.mem_of_getElem? (i := 1102) (by decide +kernel)⟩
theorem lw_p75 : lw_okq (⟨"EnemyByLotModel", "nextTried", "()Z"⟩, 28) := ⟨⟨by decide +kernel, by decide +kernel⟩, List.mem_of_getElem? (i := 738) (by decide +kernel), List.mem_of_getElem? (i := 1105) (by decide +kernel), List.mem_of_getElem? (i := 1106) (by decide +kernel)⟩
theorem lw_p76 : lw_okq (⟨"EnemyByLotModel", "isMap", "(I)Z"⟩, 28) := ⟨⟨by decide +kernel, by decide +kernel⟩, List.mem_of_getElem? (i := 738) (by decide +kernel), List.mem_of_getElem? (i := 1113) (by decide +kernel), List.mem_of_getElem? (i := 1114) (by decide +kernel)⟩
theorem lw_p77 : lw_okq (⟨"EnemyByLotModel", "layMaps", "(Z)V"⟩, 28) := ⟨⟨by decide +kernel, by decide +kernel⟩, List.mem_of_getElem? (i := 738) (by decide +kernel), List.mem_of_getElem? (i := 1121) (by decide +kernel), List.mem_of_getElem? (i := 1122) (by decide +kernel)⟩
theorem lw_p78 : lw_okq (⟨"EnemyByLotModel", "tellMany", "(I)I"⟩, 28) := ⟨⟨by decide +kernel, by decide +kernel⟩, List.mem_of_getElem? (i := 738) (by decide +kernel), List.mem_of_getElem? (i := 1125) (by decide +kernel), List.mem_of_getElem? (i := 1126) (by decide +kernel)⟩
theorem lw_p79 : lw_okq (⟨"EnemyByLotModel", "tellParts", "(JJ)I"⟩, 28) := ⟨⟨by decide +kernel, by decide +kernel⟩, List.mem_of_getElem? (i := 738) (by decide +kernel), List.mem_of_getElem? (i := 1136) (by decide +kernel), List.mem_of_getElem? (i := 1137) (by decide +kernel)⟩
def lw_privs_5 : List (MethodName × Nat) := [(⟨"EnemyByLotModel", "keepPast", "()V"⟩, 28), (⟨"EnemyByLotModel", "change", "(II)V"⟩, 28), (⟨"EnemyByLotModel", "copyTown", "(II)V"⟩, 28), (⟨"EnemyByLotModel", "ringOf", "(I)I"⟩, 28), (⟨"EnemyByLotModel", "against", "(I)I"⟩, 28), (⟨"EnemyByLotModel", "weeksOf", "(III)I"⟩, 28), (⟨"EnemyByLotModel", "isReachedBy", "(III)Z"⟩, 28), (⟨"EnemyByLotModel", "wish", "(II)Z"⟩, 28), (⟨"EnemyByLotModel", "victimsNow", "()I"⟩, 28), (⟨"EnemyByLotModel", "leftOf", "(I)I"⟩, 28), (⟨"EnemyByLotModel", "strengthsTried", "()I"⟩, 28), (⟨"EnemyByLotModel", "nextTried", "()Z"⟩, 28), (⟨"EnemyByLotModel", "isMap", "(I)Z"⟩, 28), (⟨"EnemyByLotModel", "layMaps", "(Z)V"⟩, 28), (⟨"EnemyByLotModel", "tellMany", "(I)I"⟩, 28), (⟨"EnemyByLotModel", "tellParts", "(JJ)I"⟩, 28)]
theorem lw_r5 : ∀ q ∈ lw_privs_5, lw_okq q := List.forall_mem_cons.mpr ⟨lw_p64, List.forall_mem_cons.mpr ⟨lw_p65, List.forall_mem_cons.mpr ⟨lw_p66, List.forall_mem_cons.mpr ⟨lw_p67, List.forall_mem_cons.mpr ⟨lw_p68, List.forall_mem_cons.mpr ⟨lw_p69, List.forall_mem_cons.mpr ⟨lw_p70, List.forall_mem_cons.mpr ⟨lw_p71, List.forall_mem_cons.mpr ⟨lw_p72, List.forall_mem_cons.mpr ⟨lw_p73, List.forall_mem_cons.mpr ⟨lw_p74, List.forall_mem_cons.mpr ⟨lw_p75, List.forall_mem_cons.mpr ⟨lw_p76, List.forall_mem_cons.mpr ⟨lw_p77, List.forall_mem_cons.mpr ⟨lw_p78, List.forall_mem_cons.mpr ⟨lw_p79, fun _ h => absurd h List.not_mem_nil⟩⟩⟩⟩⟩⟩⟩⟩⟩⟩⟩⟩⟩⟩⟩⟩
theorem lw_p80 : lw_okq (⟨"EnemyByLotModel", "layFits", "(I)I"⟩, 28) := ⟨⟨by decide +kernel, by decide +kernel⟩, List.mem_of_getElem? (i := 738) (by decide +kernel), List.mem_of_getElem? (i := 1148) (by decide +kernel), List.mem_of_getElem? (i := 1149) (by decide +kernel)⟩
theorem lw_p81 : lw_okq (⟨"EnemyByLotModel", "victimsOf", "(II)I"⟩, 28) := ⟨⟨by decide +kernel, by decide +kernel⟩, List.mem_of_getElem? (i := 738) (by decide +kernel), List.mem_of_getElem? (i := 1152) (by decide +kernel), List.mem_of_getElem? (i := 1153) (by decide +kernel)⟩
theorem lw_p82 : lw_okq (⟨"EnemyByLotModel", "mostLeft", "(I)I"⟩, 28) := ⟨⟨by decide +kernel, by decide +kernel⟩, List.mem_of_getElem? (i := 738) (by decide +kernel), List.mem_of_getElem? (i := 1164) (by decide +kernel), List.mem_of_getElem? (i := 1165) (by decide +kernel)⟩
theorem lw_p83 : lw_okq (⟨"EnemyByLotModel", "countOf", "(I)I"⟩, 28) := ⟨⟨by decide +kernel, by decide +kernel⟩, List.mem_of_getElem? (i := 738) (by decide +kernel), List.mem_of_getElem? (i := 1193) (by decide +kernel), List.mem_of_getElem? (i := 1194) (by decide +kernel)⟩
theorem lw_p84 : lw_okq (⟨"EnemyByLotModel", "sumFrom", "(I)I"⟩, 28) := ⟨⟨by decide +kernel, by decide +kernel⟩, List.mem_of_getElem? (i := 738) (by decide +kernel), List.mem_of_getElem? (i := 1197) (by decide +kernel), List.mem_of_getElem? (i := 1198) (by decide +kernel)⟩
theorem lw_p85 : lw_okq (⟨"EnemyByLotModel", "zealots", "()I"⟩, 28) := ⟨⟨by decide +kernel, by decide +kernel⟩, List.mem_of_getElem? (i := 738) (by decide +kernel), List.mem_of_getElem? (i := 1201) (by decide +kernel), List.mem_of_getElem? (i := 1202) (by decide +kernel)⟩
theorem lw_p86 : lw_okq (⟨"EnemyByLotModel", "thereOf", "(I)I"⟩, 28) := ⟨⟨by decide +kernel, by decide +kernel⟩, List.mem_of_getElem? (i := 738) (by decide +kernel), List.mem_of_getElem? (i := 1205) (by decide +kernel), List.mem_of_getElem? (i := 1206) (by decide +kernel)⟩
def lw_privs_6 : List (MethodName × Nat) := [(⟨"EnemyByLotModel", "layFits", "(I)I"⟩, 28), (⟨"EnemyByLotModel", "victimsOf", "(II)I"⟩, 28), (⟨"EnemyByLotModel", "mostLeft", "(I)I"⟩, 28), (⟨"EnemyByLotModel", "countOf", "(I)I"⟩, 28), (⟨"EnemyByLotModel", "sumFrom", "(I)I"⟩, 28), (⟨"EnemyByLotModel", "zealots", "()I"⟩, 28), (⟨"EnemyByLotModel", "thereOf", "(I)I"⟩, 28)]
theorem lw_r6 : ∀ q ∈ lw_privs_6, lw_okq q := List.forall_mem_cons.mpr ⟨lw_p80, List.forall_mem_cons.mpr ⟨lw_p81, List.forall_mem_cons.mpr ⟨lw_p82, List.forall_mem_cons.mpr ⟨lw_p83, List.forall_mem_cons.mpr ⟨lw_p84, List.forall_mem_cons.mpr ⟨lw_p85, List.forall_mem_cons.mpr ⟨lw_p86, fun _ h => absurd h List.not_mem_nil⟩⟩⟩⟩⟩⟩⟩
def lw_privs : List (MethodName × Nat) := lw_privs_1 ++ (lw_privs_2 ++ (lw_privs_3 ++ (lw_privs_4 ++ (lw_privs_5 ++ (lw_privs_6)))))
def lw_tbl : List Cond := k2_sels lw_privs ++ tables_1
theorem lw_privs_ok : ∀ q ∈ lw_privs, lw_okq q := by
  show ∀ q ∈ lw_privs_1 ++ (lw_privs_2 ++ (lw_privs_3 ++ (lw_privs_4 ++ (lw_privs_5 ++ (lw_privs_6))))), lw_okq q
  exact List.forall_mem_append.mpr ⟨lw_r1, List.forall_mem_append.mpr ⟨lw_r2, List.forall_mem_append.mpr ⟨lw_r3, List.forall_mem_append.mpr ⟨lw_r4, List.forall_mem_append.mpr ⟨lw_r5, lw_r6⟩⟩⟩⟩⟩
end
section
/-! ===== BEGIN printed: names, fields, word lists, decode rows ===== -/
def RX0 : String := "EnemyByLot$Atlas"
def TX0 : u_T := fun k => match k with
  | 0 => ("EnemyByLot$Atlas", "found", "[I", true)
  | 1 => ("EnemyByLot$Atlas", "barred", "[I", true)
  | 2 => ("EnemyByLot$Atlas", "alike", "[I", true)
  | 3 => ("EnemyByLot$Atlas", "number", "I", false)
  | _ => ("EnemyByLot$Atlas", "size", "I", false)
def tyX0 : Nat → FieldType := fun k => match k with
  | 0 => .array .int
  | 1 => .array .int
  | 2 => .array .int
  | 3 => .int
  | _ => .int
abbrev wsX00 : List Cond := u_ws RX0 TX0 5
theorem nmX0 : ∀ a, a < 5 → ∀ b, b < 5 → a ≠ b → (TX0 a).2.1 ≠ (TX0 b).2.1 := by decide +kernel
theorem tyX0_ok : ∀ k, k < 5 → parseFieldDescriptor (TX0 k).2.2.1 = some (tyX0 k) := by decide +kernel
abbrev cX0_init : ByteArray := prog_2_method_1_code
def yX0_init : MethodName := ⟨RX0, "<init>", "()V"⟩
abbrev cX0_seek : ByteArray := prog_2_method_2_code
def yX0_seek : MethodName := ⟨RX0, "seek", "(LEnemyByLot$Folk;IZ)V"⟩
abbrev cX0_draw : ByteArray := prog_2_method_3_code
def yX0_draw : MethodName := ⟨RX0, "draw", "(LEnemyByLot$Atlas;III)V"⟩
abbrev cX0_add : ByteArray := prog_2_method_4_code
def yX0_add : MethodName := ⟨RX0, "add", "(II)V"⟩
abbrev cX0_victimIn : ByteArray := prog_2_method_5_code
def yX0_victimIn : MethodName := ⟨RX0, "victimIn", "(II)I"⟩
abbrev cX0_victimsOf : ByteArray := prog_2_method_6_code
def yX0_victimsOf : MethodName := ⟨RX0, "victimsOf", "(II)I"⟩
abbrev cX0_retain : ByteArray := prog_2_method_7_code
def yX0_retain : MethodName := ⟨RX0, "retain", "(II)V"⟩
abbrev cX0_countPair : ByteArray := prog_2_method_8_code
def yX0_countPair : MethodName := ⟨RX0, "countPair", "(II)I"⟩
abbrev cX0_countMutual : ByteArray := prog_2_method_9_code
def yX0_countMutual : MethodName := ⟨RX0, "countMutual", "(II)I"⟩
abbrev cX0_mostAlike : ByteArray := prog_2_method_10_code
def yX0_mostAlike : MethodName := ⟨RX0, "mostAlike", "(I)I"⟩
def RX1 : String := "EnemyByLot$Folk"
def TX1 : u_T := fun k => match k with
  | 0 => ("EnemyByLot$Folk", "kinds", "[I", true)
  | 1 => ("EnemyByLot$Folk", "aims", "[I", true)
  | 2 => ("EnemyByLot$Folk", "zeals", "[I", true)
  | 3 => ("EnemyByLot$Folk", "loved", "[I", true)
  | 4 => ("EnemyByLot$Folk", "firstVictims", "[I", true)
  | 5 => ("EnemyByLot$Folk", "size", "I", false)
  | _ => ("EnemyByLot$Folk", "loves", "I", false)
def tyX1 : Nat → FieldType := fun k => match k with
  | 0 => .array .int
  | 1 => .array .int
  | 2 => .array .int
  | 3 => .array .int
  | 4 => .array .int
  | 5 => .int
  | _ => .int
abbrev wsX10 : List Cond := u_ws RX1 TX1 7
theorem nmX1 : ∀ a, a < 7 → ∀ b, b < 7 → a ≠ b → (TX1 a).2.1 ≠ (TX1 b).2.1 := by decide +kernel
theorem tyX1_ok : ∀ k, k < 7 → parseFieldDescriptor (TX1 k).2.2.1 = some (tyX1 k) := by decide +kernel
abbrev cX1_init : ByteArray := prog_3_method_1_code
def yX1_init : MethodName := ⟨RX1, "<init>", "()V"⟩
abbrev cX1_clear : ByteArray := prog_3_method_2_code
def yX1_clear : MethodName := ⟨RX1, "clear", "()V"⟩
abbrev cX1_join : ByteArray := prog_3_method_3_code
def yX1_join : MethodName := ⟨RX1, "join", "(IIII)V"⟩
abbrev cX1_pair : ByteArray := prog_3_method_4_code
def yX1_pair : MethodName := ⟨RX1, "pair", "(II)V"⟩
abbrev cX1_has : ByteArray := prog_3_method_5_code
def yX1_has : MethodName := ⟨RX1, "has", "(I)Z"⟩
abbrev cX1_everyone : ByteArray := prog_3_method_6_code
def yX1_everyone : MethodName := ⟨RX1, "everyone", "()I"⟩
abbrev cX1_kindOf : ByteArray := prog_3_method_7_code
def yX1_kindOf : MethodName := ⟨RX1, "kindOf", "(I)I"⟩
abbrev cX1_aimOf : ByteArray := prog_3_method_8_code
def yX1_aimOf : MethodName := ⟨RX1, "aimOf", "(I)I"⟩
abbrev cX1_zealOf : ByteArray := prog_3_method_9_code
def yX1_zealOf : MethodName := ⟨RX1, "zealOf", "(I)I"⟩
abbrev cX1_lovedBy : ByteArray := prog_3_method_10_code
def yX1_lovedBy : MethodName := ⟨RX1, "lovedBy", "(I)I"⟩
abbrev cX1_firstVictimOf : ByteArray := prog_3_method_11_code
def yX1_firstVictimOf : MethodName := ⟨RX1, "firstVictimOf", "(I)I"⟩
abbrev cX1_isOf : ByteArray := prog_3_method_12_code
def yX1_isOf : MethodName := ⟨RX1, "isOf", "(II)Z"⟩
abbrev cX1_power : ByteArray := prog_3_method_13_code
def yX1_power : MethodName := ⟨RX1, "power", "(I)I"⟩
abbrev cX1_against : ByteArray := prog_3_method_14_code
def yX1_against : MethodName := ⟨RX1, "against", "(II)I"⟩
def RX2 : String := "EnemyByLot$Line"
def TX2 : u_T := fun k => match k with
  | 0 => ("EnemyByLot$Line", "places", "[I", true)
  | _ => ("EnemyByLot$Line", "size", "I", false)
def tyX2 : Nat → FieldType := fun k => match k with
  | 0 => .array .int
  | _ => .int
abbrev wsX20 : List Cond := u_ws RX2 TX2 2
theorem nmX2 : ∀ a, a < 2 → ∀ b, b < 2 → a ≠ b → (TX2 a).2.1 ≠ (TX2 b).2.1 := by decide +kernel
theorem tyX2_ok : ∀ k, k < 2 → parseFieldDescriptor (TX2 k).2.2.1 = some (tyX2 k) := by decide +kernel
abbrev cX2_init : ByteArray := prog_4_method_1_code
def yX2_init : MethodName := ⟨RX2, "<init>", "(I)V"⟩
abbrev cX2_isMissing : ByteArray := prog_4_method_2_code
def yX2_isMissing : MethodName := ⟨RX2, "isMissing", "()Z"⟩
abbrev cX2_holds : ByteArray := prog_4_method_3_code
def yX2_holds : MethodName := ⟨RX2, "holds", "(I)Z"⟩
abbrev cX2_holdsSpan : ByteArray := prog_4_method_4_code
def yX2_holdsSpan : MethodName := ⟨RX2, "holdsSpan", "(II)Z"⟩
abbrev cX2_get : ByteArray := prog_4_method_5_code
def yX2_get : MethodName := ⟨RX2, "get", "(I)I"⟩
abbrev cX2_set : ByteArray := prog_4_method_6_code
def yX2_set : MethodName := ⟨RX2, "set", "(II)V"⟩
abbrev cX2_renew : ByteArray := prog_4_method_7_code
def yX2_renew : MethodName := ⟨RX2, "renew", "(II)V"⟩
abbrev cX2_discard : ByteArray := prog_4_method_8_code
def yX2_discard : MethodName := ⟨RX2, "discard", "()V"⟩
abbrev cX2_take : ByteArray := prog_4_method_9_code
def yX2_take : MethodName := ⟨RX2, "take", "(LEnemyByLot$Line;III)V"⟩
abbrev cX2_meanCut : ByteArray := prog_4_method_10_code
def yX2_meanCut : MethodName := ⟨RX2, "meanCut", "()I"⟩
abbrev cX2_mixInto : ByteArray := prog_4_method_11_code
def yX2_mixInto : MethodName := ⟨RX2, "mixInto", "(J)J"⟩
def RX3 : String := "EnemyByLot$Reader"
def TX3 : u_T := fun k => match k with
  | _ => ("EnemyByLot$Reader", "figurePlaces", "[I", true)
def tyX3 : Nat → FieldType := fun k => match k with
  | _ => .array .int
abbrev wsX30 : List Cond := u_ws RX3 TX3 1
theorem nmX3 : ∀ a, a < 1 → ∀ b, b < 1 → a ≠ b → (TX3 a).2.1 ≠ (TX3 b).2.1 := by decide +kernel
theorem tyX3_ok : ∀ k, k < 1 → parseFieldDescriptor (TX3 k).2.2.1 = some (tyX3 k) := by decide +kernel
abbrev cX3_init : ByteArray := prog_5_method_1_code
def yX3_init : MethodName := ⟨RX3, "<init>", "()V"⟩
abbrev cX3_read : ByteArray := prog_5_method_2_code
def yX3_read : MethodName := ⟨RX3, "read", "(LEnemyByLot$Line;LEnemyByLot$Folk;)I"⟩
abbrev cX3_widthOf : ByteArray := prog_5_method_3_code
def yX3_widthOf : MethodName := ⟨RX3, "widthOf", "(I)I"⟩
abbrev cX3_readItem : ByteArray := prog_5_method_4_code
def yX3_readItem : MethodName := ⟨RX3, "readItem", "(LEnemyByLot$Line;ILEnemyByLot$Folk;)I"⟩
abbrev cX3_readPerson : ByteArray := prog_5_method_5_code
def yX3_readPerson : MethodName := ⟨RX3, "readPerson", "(LEnemyByLot$Line;ILEnemyByLot$Folk;)I"⟩
abbrev cX3_readLove : ByteArray := prog_5_method_6_code
def yX3_readLove : MethodName := ⟨RX3, "readLove", "(LEnemyByLot$Line;ILEnemyByLot$Folk;)I"⟩
abbrev cX3_faultOfFoes : ByteArray := prog_5_method_7_code
def yX3_faultOfFoes : MethodName := ⟨RX3, "faultOfFoes", "(LEnemyByLot$Folk;)I"⟩
abbrev cX3_kindBy : ByteArray := prog_5_method_8_code
def yX3_kindBy : MethodName := ⟨RX3, "kindBy", "(I)I"⟩
abbrev cX3_figure : ByteArray := prog_5_method_9_code
def yX3_figure : MethodName := ⟨RX3, "figure", "(LEnemyByLot$Line;III)I"⟩
def RX4 : String := "EnemyByLot$Town"
def TX4 : u_T := fun k => match k with
  | 0 => ("EnemyByLot$Town", "victims", "[I", true)
  | 1 => ("EnemyByLot$Town", "deeds", "[I", true)
  | 2 => ("EnemyByLot$Town", "fines", "[I", true)
  | 3 => ("EnemyByLot$Town", "turns", "I", false)
  | _ => ("EnemyByLot$Town", "kept", "Z", false)
def tyX4 : Nat → FieldType := fun k => match k with
  | 0 => .array .int
  | 1 => .array .int
  | 2 => .array .int
  | 3 => .int
  | _ => .boolean
abbrev wsX40 : List Cond := u_ws RX4 TX4 5
theorem nmX4 : ∀ a, a < 5 → ∀ b, b < 5 → a ≠ b → (TX4 a).2.1 ≠ (TX4 b).2.1 := by decide +kernel
theorem tyX4_ok : ∀ k, k < 5 → parseFieldDescriptor (TX4 k).2.2.1 = some (tyX4 k) := by decide +kernel
abbrev cX4_init : ByteArray := prog_6_method_1_code
def yX4_init : MethodName := ⟨RX4, "<init>", "()V"⟩
abbrev cX4_begin : ByteArray := prog_6_method_2_code
def yX4_begin : MethodName := ⟨RX4, "begin", "(LEnemyByLot$Folk;)V"⟩
abbrev cX4_beginTurn : ByteArray := prog_6_method_3_code
def yX4_beginTurn : MethodName := ⟨RX4, "beginTurn", "()Z"⟩
abbrev cX4_backTo : ByteArray := prog_6_method_4_code
def yX4_backTo : MethodName := ⟨RX4, "backTo", "(I)I"⟩
abbrev cX4_take : ByteArray := prog_6_method_5_code
def yX4_take : MethodName := ⟨RX4, "take", "(LEnemyByLot$Town;)V"⟩
abbrev cX4_slot : ByteArray := prog_6_method_6_code
def yX4_slot : MethodName := ⟨RX4, "slot", "(I)I"⟩
abbrev cX4_victimOf : ByteArray := prog_6_method_7_code
def yX4_victimOf : MethodName := ⟨RX4, "victimOf", "(I)I"⟩
abbrev cX4_deedsOf : ByteArray := prog_6_method_8_code
def yX4_deedsOf : MethodName := ⟨RX4, "deedsOf", "(I)I"⟩
abbrev cX4_finesOf : ByteArray := prog_6_method_9_code
def yX4_finesOf : MethodName := ⟨RX4, "finesOf", "(I)I"⟩
abbrev cX4_setVictim : ByteArray := prog_6_method_10_code
def yX4_setVictim : MethodName := ⟨RX4, "setVictim", "(II)V"⟩
abbrev cX4_setDeeds : ByteArray := prog_6_method_11_code
def yX4_setDeeds : MethodName := ⟨RX4, "setDeeds", "(II)V"⟩
abbrev cX4_fine : ByteArray := prog_6_method_12_code
def yX4_fine : MethodName := ⟨RX4, "fine", "(I)V"⟩
abbrev cX4_foeOf : ByteArray := prog_6_method_13_code
def yX4_foeOf : MethodName := ⟨RX4, "foeOf", "(I)I"⟩
abbrev cX4_victimSet : ByteArray := prog_6_method_14_code
def yX4_victimSet : MethodName := ⟨RX4, "victimSet", "()I"⟩
def RX5 : String := "EnemyByLot"
def TX5 : u_T := fun k => match k with
  | 0 => ("EnemyByLot", "rows", "[LEnemyByLot$Line;", true)
  | 1 => ("EnemyByLot", "texts", "[LEnemyByLot$Line;", true)
  | 2 => ("EnemyByLot", "reader", "LEnemyByLot$Reader;", true)
  | 3 => ("EnemyByLot", "now", "LEnemyByLot$Town;", true)
  | 4 => ("EnemyByLot", "shelves", "[LEnemyByLot$Town;", true)
  | 5 => ("EnemyByLot", "atlas", "LEnemyByLot$Atlas;", true)
  | 6 => ("EnemyByLot", "acts", "[I", true)
  | 7 => ("EnemyByLot", "found", "[I", true)
  | 8 => ("EnemyByLot", "folk", "LEnemyByLot$Folk;", false)
  | 9 => ("EnemyByLot", "draft", "LEnemyByLot$Folk;", false)
  | 10 => ("EnemyByLot", "latestFinding", "I", false)
  | 11 => ("EnemyByLot", "told", "I", false)
  | 12 => ("EnemyByLot", "above", "J", false)
  | _ => ("EnemyByLot", "below", "J", false)
def tyX5 : Nat → FieldType := fun k => match k with
  | 0 => .array (.object "EnemyByLot$Line")
  | 1 => .array (.object "EnemyByLot$Line")
  | 2 => .object "EnemyByLot$Reader"
  | 3 => .object "EnemyByLot$Town"
  | 4 => .array (.object "EnemyByLot$Town")
  | 5 => .object "EnemyByLot$Atlas"
  | 6 => .array .int
  | 7 => .array .int
  | 8 => .object "EnemyByLot$Folk"
  | 9 => .object "EnemyByLot$Folk"
  | 10 => .int
  | 11 => .int
  | 12 => .long
  | _ => .long
abbrev wsX50 : List Cond := u_ws RX5 TX5 14
theorem nmX5 : ∀ a, a < 14 → ∀ b, b < 14 → a ≠ b → (TX5 a).2.1 ≠ (TX5 b).2.1 := by decide +kernel
theorem tyX5_ok : ∀ k, k < 14 → parseFieldDescriptor (TX5 k).2.2.1 = some (tyX5 k) := by decide +kernel
abbrev cX5_init : ByteArray := prog_1_method_1_code
def yX5_init : MethodName := ⟨RX5, "<init>", "()V"⟩
abbrev cX5_row : ByteArray := prog_1_method_2_code
def yX5_row : MethodName := ⟨RX5, "row", "(II)I"⟩
abbrev cX5_lay : ByteArray := prog_1_method_3_code
def yX5_lay : MethodName := ⟨RX5, "lay", "(III)I"⟩
abbrev cX5_at : ByteArray := prog_1_method_4_code
def yX5_at : MethodName := ⟨RX5, "at", "(II)I"⟩
abbrev cX5_tear : ByteArray := prog_1_method_5_code
def yX5_tear : MethodName := ⟨RX5, "tear", "(I)I"⟩
abbrev cX5_copy : ByteArray := prog_1_method_6_code
def yX5_copy : MethodName := ⟨RX5, "copy", "(IIIII)I"⟩
abbrev cX5_mean : ByteArray := prog_1_method_7_code
def yX5_mean : MethodName := ⟨RX5, "mean", "(I)I"⟩
abbrev cX5_text : ByteArray := prog_1_method_8_code
def yX5_text : MethodName := ⟨RX5, "text", "(II)I"⟩
abbrev cX5_put : ByteArray := prog_1_method_9_code
def yX5_put : MethodName := ⟨RX5, "put", "(III)I"⟩
abbrev cX5_fault : ByteArray := prog_1_method_10_code
def yX5_fault : MethodName := ⟨RX5, "fault", "(I)I"⟩
abbrev cX5_town : ByteArray := prog_1_method_11_code
def yX5_town : MethodName := ⟨RX5, "town", "(I)I"⟩
abbrev cX5_person : ByteArray := prog_1_method_12_code
def yX5_person : MethodName := ⟨RX5, "person", "(II)I"⟩
abbrev cX5_mark : ByteArray := prog_1_method_13_code
def yX5_mark : MethodName := ⟨RX5, "mark", "(II)I"⟩
abbrev cX5_strength : ByteArray := prog_1_method_14_code
def yX5_strength : MethodName := ⟨RX5, "strength", "(II)I"⟩
abbrev cX5_week : ByteArray := prog_1_method_15_code
def yX5_week : MethodName := ⟨RX5, "week", "(I)I"⟩
abbrev cX5_exchange : ByteArray := prog_1_method_16_code
def yX5_exchange : MethodName := ⟨RX5, "exchange", "(II)I"⟩
abbrev cX5_undo : ByteArray := prog_1_method_17_code
def yX5_undo : MethodName := ⟨RX5, "undo", "(I)I"⟩
abbrev cX5_keep : ByteArray := prog_1_method_18_code
def yX5_keep : MethodName := ⟨RX5, "keep", "(I)I"⟩
abbrev cX5_on : ByteArray := prog_1_method_19_code
def yX5_on : MethodName := ⟨RX5, "on", "(I)I"⟩
abbrev cX5_rings : ByteArray := prog_1_method_20_code
def yX5_rings : MethodName := ⟨RX5, "rings", "()I"⟩
abbrev cX5_allies : ByteArray := prog_1_method_21_code
def yX5_allies : MethodName := ⟨RX5, "allies", "(I)I"⟩
abbrev cX5_safe : ByteArray := prog_1_method_22_code
def yX5_safe : MethodName := ⟨RX5, "safe", "()I"⟩
abbrev cX5_weeks : ByteArray := prog_1_method_23_code
def yX5_weeks : MethodName := ⟨RX5, "weeks", "(II)I"⟩
abbrev cX5_thwart : ByteArray := prog_1_method_24_code
def yX5_thwart : MethodName := ⟨RX5, "thwart", "(II)I"⟩
abbrev cX5_ways : ByteArray := prog_1_method_25_code
def yX5_ways : MethodName := ⟨RX5, "ways", "(II)I"⟩
abbrev cX5_wishes : ByteArray := prog_1_method_26_code
def yX5_wishes : MethodName := ⟨RX5, "wishes", "()I"⟩
abbrev cX5_mildest : ByteArray := prog_1_method_27_code
def yX5_mildest : MethodName := ⟨RX5, "mildest", "(I)I"⟩
abbrev cX5_none : ByteArray := prog_1_method_28_code
def yX5_none : MethodName := ⟨RX5, "none", "(I)I"⟩
abbrev cX5_maps : ByteArray := prog_1_method_29_code
def yX5_maps : MethodName := ⟨RX5, "maps", "()I"⟩
abbrev cX5_odds : ByteArray := prog_1_method_30_code
def yX5_odds : MethodName := ⟨RX5, "odds", "(II)I"⟩
abbrev cX5_both : ByteArray := prog_1_method_31_code
def yX5_both : MethodName := ⟨RX5, "both", "(II)I"⟩
abbrev cX5_fits : ByteArray := prog_1_method_32_code
def yX5_fits : MethodName := ⟨RX5, "fits", "(I)I"⟩
abbrev cX5_sure : ByteArray := prog_1_method_33_code
def yX5_sure : MethodName := ⟨RX5, "sure", "(II)I"⟩
abbrev cX5_ask : ByteArray := prog_1_method_34_code
def yX5_ask : MethodName := ⟨RX5, "ask", "(I)I"⟩
abbrev cX5_lots : ByteArray := prog_1_method_35_code
def yX5_lots : MethodName := ⟨RX5, "lots", "(II)I"⟩
abbrev cX5_asked : ByteArray := prog_1_method_36_code
def yX5_asked : MethodName := ⟨RX5, "asked", "()I"⟩
abbrev cX5_upper : ByteArray := prog_1_method_37_code
def yX5_upper : MethodName := ⟨RX5, "upper", "()J"⟩
abbrev cX5_lower : ByteArray := prog_1_method_38_code
def yX5_lower : MethodName := ⟨RX5, "lower", "()J"⟩
abbrev cX5_count : ByteArray := prog_1_method_39_code
def yX5_count : MethodName := ⟨RX5, "count", "(I)I"⟩
abbrev cX5_finding : ByteArray := prog_1_method_40_code
def yX5_finding : MethodName := ⟨RX5, "finding", "()I"⟩
abbrev cX5_findings : ByteArray := prog_1_method_41_code
def yX5_findings : MethodName := ⟨RX5, "findings", "(I)I"⟩
abbrev cX5_digest : ByteArray := prog_1_method_42_code
def yX5_digest : MethodName := ⟨RX5, "digest", "()J"⟩
abbrev cX5_find : ByteArray := prog_1_method_43_code
def yX5_find : MethodName := ⟨RX5, "find", "(I)I"⟩
abbrev cX5_lineAt : ByteArray := prog_1_method_44_code
def yX5_lineAt : MethodName := ⟨RX5, "lineAt", "([LEnemyByLot$Line;I)LEnemyByLot$Line;"⟩
abbrev cX5_shelfAt : ByteArray := prog_1_method_45_code
def yX5_shelfAt : MethodName := ⟨RX5, "shelfAt", "(I)LEnemyByLot$Town;"⟩
abbrev cX5_refusePlace : ByteArray := prog_1_method_46_code
def yX5_refusePlace : MethodName := ⟨RX5, "refusePlace", "(LEnemyByLot$Line;I)I"⟩
abbrev cX5_refuseRow : ByteArray := prog_1_method_47_code
def yX5_refuseRow : MethodName := ⟨RX5, "refuseRow", "(LEnemyByLot$Line;)I"⟩
abbrev cX5_refuseFolkRow : ByteArray := prog_1_method_48_code
def yX5_refuseFolkRow : MethodName := ⟨RX5, "refuseFolkRow", "(LEnemyByLot$Line;)I"⟩
abbrev cX5_refuseDraw : ByteArray := prog_1_method_49_code
def yX5_refuseDraw : MethodName := ⟨RX5, "refuseDraw", "(II)I"⟩
abbrev cX5_refuseWeeks : ByteArray := prog_1_method_50_code
def yX5_refuseWeeks : MethodName := ⟨RX5, "refuseWeeks", "(LEnemyByLot$Line;)I"⟩
abbrev cX5_refuseFits : ByteArray := prog_1_method_51_code
def yX5_refuseFits : MethodName := ⟨RX5, "refuseFits", "(LEnemyByLot$Line;)I"⟩
abbrev cX5_isIn : ByteArray := prog_1_method_52_code
def yX5_isIn : MethodName := ⟨RX5, "isIn", "(II)Z"⟩
abbrev cX5_isPair : ByteArray := prog_1_method_53_code
def yX5_isPair : MethodName := ⟨RX5, "isPair", "(II)Z"⟩
abbrev cX5_isAct : ByteArray := prog_1_method_54_code
def yX5_isAct : MethodName := ⟨RX5, "isAct", "(II)Z"⟩
abbrev cX5_isMapOfNow : ByteArray := prog_1_method_55_code
def yX5_isMapOfNow : MethodName := ⟨RX5, "isMapOfNow", "(LEnemyByLot$Line;)Z"⟩
abbrev cX5_trait : ByteArray := prog_1_method_56_code
def yX5_trait : MethodName := ⟨RX5, "trait", "(II)I"⟩
abbrev cX5_hasReached : ByteArray := prog_1_method_57_code
def yX5_hasReached : MethodName := ⟨RX5, "hasReached", "(I)Z"⟩
abbrev cX5_reachedSet : ByteArray := prog_1_method_58_code
def yX5_reachedSet : MethodName := ⟨RX5, "reachedSet", "()I"⟩
abbrev cX5_owesDuty : ByteArray := prog_1_method_59_code
def yX5_owesDuty : MethodName := ⟨RX5, "owesDuty", "(I)Z"⟩
abbrev cX5_calmedBy : ByteArray := prog_1_method_60_code
def yX5_calmedBy : MethodName := ⟨RX5, "calmedBy", "(I)I"⟩
abbrev cX5_weeksForNine : ByteArray := prog_1_method_61_code
def yX5_weeksForNine : MethodName := ⟨RX5, "weeksForNine", "(I)I"⟩
abbrev cX5_lossOf : ByteArray := prog_1_method_62_code
def yX5_lossOf : MethodName := ⟨RX5, "lossOf", "(I)I"⟩
abbrev cX5_passWeek : ByteArray := prog_1_method_63_code
def yX5_passWeek : MethodName := ⟨RX5, "passWeek", "()I"⟩
abbrev cX5_fineIdle : ByteArray := prog_1_method_64_code
def yX5_fineIdle : MethodName := ⟨RX5, "fineIdle", "()V"⟩
abbrev cX5_actByLot : ByteArray := prog_1_method_65_code
def yX5_actByLot : MethodName := ⟨RX5, "actByLot", "(IJ)I"⟩
abbrev cX5_ringOf : ByteArray := prog_1_method_66_code
def yX5_ringOf : MethodName := ⟨RX5, "ringOf", "(I)I"⟩
abbrev cX5_fewestWeeks : ByteArray := prog_1_method_67_code
def yX5_fewestWeeks : MethodName := ⟨RX5, "fewestWeeks", "(II)I"⟩
abbrev cX5_reachesThrough : ByteArray := prog_1_method_68_code
def yX5_reachesThrough : MethodName := ⟨RX5, "reachesThrough", "(III)Z"⟩
abbrev cX5_afterWeek : ByteArray := prog_1_method_69_code
def yX5_afterWeek : MethodName := ⟨RX5, "afterWeek", "(II)I"⟩
abbrev cX5_isWish : ByteArray := prog_1_method_70_code
def yX5_isWish : MethodName := ⟨RX5, "isWish", "(II)Z"⟩
abbrev cX5_strengthsIn : ByteArray := prog_1_method_71_code
def yX5_strengthsIn : MethodName := ⟨RX5, "strengthsIn", "(I)I"⟩
abbrev cX5_tell : ByteArray := prog_1_method_72_code
def yX5_tell : MethodName := ⟨RX5, "tell", "(JJ)I"⟩
abbrev cX5_commonDivisor : ByteArray := prog_1_method_73_code
def yX5_commonDivisor : MethodName := ⟨RX5, "commonDivisor", "(JJ)J"⟩
abbrev cX5_seekFits : ByteArray := prog_1_method_74_code
def yX5_seekFits : MethodName := ⟨RX5, "seekFits", "(LEnemyByLot$Line;)V"⟩
abbrev cX5_allFines : ByteArray := prog_1_method_75_code
def yX5_allFines : MethodName := ⟨RX5, "allFines", "()I"⟩
abbrev cX5_zealots : ByteArray := prog_1_method_76_code
def yX5_zealots : MethodName := ⟨RX5, "zealots", "()I"⟩
abbrev cX5_present : ByteArray := prog_1_method_77_code
def yX5_present : MethodName := ⟨RX5, "present", "([LEnemyByLot$Line;)I"⟩
abbrev cX5_keptTowns : ByteArray := prog_1_method_78_code
def yX5_keptTowns : MethodName := ⟨RX5, "keptTowns", "()I"⟩
def RX6 : String := "EnemyByLotModel"
def TX6 : u_T := fun k => match k with
  | 0 => ("EnemyByLotModel", "row", "[I", true)
  | 1 => ("EnemyByLotModel", "persons", "I", false)
  | 2 => ("EnemyByLotModel", "kinds", "[I", true)
  | 3 => ("EnemyByLotModel", "aims", "[I", true)
  | 4 => ("EnemyByLotModel", "zeals", "[I", true)
  | 5 => ("EnemyByLotModel", "loves", "[I", true)
  | 6 => ("EnemyByLotModel", "loveMany", "I", false)
  | 7 => ("EnemyByLotModel", "sizes", "[I", true)
  | 8 => ("EnemyByLotModel", "items", "[I", true)
  | 9 => ("EnemyByLotModel", "lengths", "[I", true)
  | 10 => ("EnemyByLotModel", "bytes", "[I", true)
  | 11 => ("EnemyByLotModel", "asked", "I", false)
  | 12 => ("EnemyByLotModel", "upper", "J", false)
  | 13 => ("EnemyByLotModel", "lower", "J", false)
  | 14 => ("EnemyByLotModel", "finding", "I", false)
  | 15 => ("EnemyByLotModel", "findings", "[I", true)
  | 16 => ("EnemyByLotModel", "from", "I", false)
  | 17 => ("EnemyByLotModel", "place", "I", false)
  | 18 => ("EnemyByLotModel", "end", "I", false)
  | 19 => ("EnemyByLotModel", "readPersons", "[I", true)
  | 20 => ("EnemyByLotModel", "readMany", "I", false)
  | 21 => ("EnemyByLotModel", "readLoves", "[I", true)
  | 22 => ("EnemyByLotModel", "readLoveMany", "I", false)
  | 23 => ("EnemyByLotModel", "does", "[I", true)
  | 24 => ("EnemyByLotModel", "tried", "[I", true)
  | 25 => ("EnemyByLotModel", "maps", "[I", true)
  | 26 => ("EnemyByLotModel", "mapMany", "I", false)
  | _ => ("EnemyByLotModel", "left", "[I", true)
def tyX6 : Nat → FieldType := fun k => match k with
  | 0 => .array .int
  | 1 => .int
  | 2 => .array .int
  | 3 => .array .int
  | 4 => .array .int
  | 5 => .array .int
  | 6 => .int
  | 7 => .array .int
  | 8 => .array .int
  | 9 => .array .int
  | 10 => .array .int
  | 11 => .int
  | 12 => .long
  | 13 => .long
  | 14 => .int
  | 15 => .array .int
  | 16 => .int
  | 17 => .int
  | 18 => .int
  | 19 => .array .int
  | 20 => .int
  | 21 => .array .int
  | 22 => .int
  | 23 => .array .int
  | 24 => .array .int
  | 25 => .array .int
  | 26 => .int
  | _ => .array .int
abbrev wsX60 : List Cond := u_ws RX6 TX6 28
theorem nmX6 : ∀ a, a < 28 → ∀ b, b < 28 → a ≠ b → (TX6 a).2.1 ≠ (TX6 b).2.1 := by decide +kernel
theorem tyX6_ok : ∀ k, k < 28 → parseFieldDescriptor (TX6 k).2.2.1 = some (tyX6 k) := by decide +kernel
abbrev cX6_init : ByteArray := prog_8_method_1_code
def yX6_init : MethodName := ⟨RX6, "<init>", "()V"⟩
abbrev cX6_bits : ByteArray := prog_8_method_2_code
def yX6_bits : MethodName := ⟨RX6, "bits", "(I)I"⟩
abbrev cX6_in : ByteArray := prog_8_method_3_code
def yX6_in : MethodName := ⟨RX6, "in", "(JJJ)Z"⟩
abbrev cX6_has : ByteArray := prog_8_method_4_code
def yX6_has : MethodName := ⟨RX6, "has", "(II)Z"⟩
abbrev cX6_find : ByteArray := prog_8_method_5_code
def yX6_find : MethodName := ⟨RX6, "find", "(I)I"⟩
abbrev cX6_tell : ByteArray := prog_8_method_6_code
def yX6_tell : MethodName := ⟨RX6, "tell", "(I)I"⟩
abbrev cX6_isRow : ByteArray := prog_8_method_7_code
def yX6_isRow : MethodName := ⟨RX6, "isRow", "(I)Z"⟩
abbrev cX6_isText : ByteArray := prog_8_method_8_code
def yX6_isText : MethodName := ⟨RX6, "isText", "(I)Z"⟩
abbrev cX6_row : ByteArray := prog_8_method_9_code
def yX6_row : MethodName := ⟨RX6, "row", "(II)I"⟩
abbrev cX6_makeRow : ByteArray := prog_8_method_10_code
def yX6_makeRow : MethodName := ⟨RX6, "makeRow", "(II)V"⟩
abbrev cX6_refused : ByteArray := prog_8_method_11_code
def yX6_refused : MethodName := ⟨RX6, "refused", "(II)I"⟩
abbrev cX6_lay : ByteArray := prog_8_method_12_code
def yX6_lay : MethodName := ⟨RX6, "lay", "(III)I"⟩
abbrev cX6_at : ByteArray := prog_8_method_13_code
def yX6_at : MethodName := ⟨RX6, "at", "(II)I"⟩
abbrev cX6_tear : ByteArray := prog_8_method_14_code
def yX6_tear : MethodName := ⟨RX6, "tear", "(I)I"⟩
abbrev cX6_isSpan : ByteArray := prog_8_method_15_code
def yX6_isSpan : MethodName := ⟨RX6, "isSpan", "(III)Z"⟩
abbrev cX6_copy : ByteArray := prog_8_method_16_code
def yX6_copy : MethodName := ⟨RX6, "copy", "(IIIII)I"⟩
abbrev cX6_mean : ByteArray := prog_8_method_17_code
def yX6_mean : MethodName := ⟨RX6, "mean", "(I)I"⟩
abbrev cX6_text : ByteArray := prog_8_method_18_code
def yX6_text : MethodName := ⟨RX6, "text", "(II)I"⟩
abbrev cX6_put : ByteArray := prog_8_method_19_code
def yX6_put : MethodName := ⟨RX6, "put", "(III)I"⟩
abbrev cX6_here : ByteArray := prog_8_method_20_code
def yX6_here : MethodName := ⟨RX6, "here", "()I"⟩
abbrev cX6_skip : ByteArray := prog_8_method_21_code
def yX6_skip : MethodName := ⟨RX6, "skip", "()V"⟩
abbrev cX6_figure : ByteArray := prog_8_method_22_code
def yX6_figure : MethodName := ⟨RX6, "figure", "(II)I"⟩
abbrev cX6_kindOfLetter : ByteArray := prog_8_method_23_code
def yX6_kindOfLetter : MethodName := ⟨RX6, "kindOfLetter", "(I)I"⟩
abbrev cX6_readsPerson : ByteArray := prog_8_method_24_code
def yX6_readsPerson : MethodName := ⟨RX6, "readsPerson", "()Z"⟩
abbrev cX6_readsLove : ByteArray := prog_8_method_25_code
def yX6_readsLove : MethodName := ⟨RX6, "readsLove", "()Z"⟩
abbrev cX6_areVictims : ByteArray := prog_8_method_26_code
def yX6_areVictims : MethodName := ⟨RX6, "areVictims", "()Z"⟩
abbrev cX6_faultOf : ByteArray := prog_8_method_27_code
def yX6_faultOf : MethodName := ⟨RX6, "faultOf", "(I)I"⟩
abbrev cX6_fault : ByteArray := prog_8_method_28_code
def yX6_fault : MethodName := ⟨RX6, "fault", "(I)I"⟩
abbrev cX6_town : ByteArray := prog_8_method_29_code
def yX6_town : MethodName := ⟨RX6, "town", "(I)I"⟩
abbrev cX6_isPerson : ByteArray := prog_8_method_30_code
def yX6_isPerson : MethodName := ⟨RX6, "isPerson", "(I)Z"⟩
abbrev cX6_areTwo : ByteArray := prog_8_method_31_code
def yX6_areTwo : MethodName := ⟨RX6, "areTwo", "(II)Z"⟩
abbrev cX6_victim : ByteArray := prog_8_method_32_code
def yX6_victim : MethodName := ⟨RX6, "victim", "(I)I"⟩
abbrev cX6_foe : ByteArray := prog_8_method_33_code
def yX6_foe : MethodName := ⟨RX6, "foe", "(I)I"⟩
abbrev cX6_isReached : ByteArray := prog_8_method_34_code
def yX6_isReached : MethodName := ⟨RX6, "isReached", "(I)Z"⟩
abbrev cX6_plain : ByteArray := prog_8_method_35_code
def yX6_plain : MethodName := ⟨RX6, "plain", "(I)I"⟩
abbrev cX6_strengthOf : ByteArray := prog_8_method_36_code
def yX6_strengthOf : MethodName := ⟨RX6, "strengthOf", "(II)I"⟩
abbrev cX6_against : ByteArray := prog_8_method_37_code
def yX6_against : MethodName := ⟨RX6, "against", "(I)I"⟩
abbrev cX6_toldOf : ByteArray := prog_8_method_38_code
def yX6_toldOf : MethodName := ⟨RX6, "toldOf", "(II)I"⟩
abbrev cX6_person : ByteArray := prog_8_method_39_code
def yX6_person : MethodName := ⟨RX6, "person", "(II)I"⟩
abbrev cX6_isOf : ByteArray := prog_8_method_40_code
def yX6_isOf : MethodName := ⟨RX6, "isOf", "(II)Z"⟩
abbrev cX6_saved : ByteArray := prog_8_method_41_code
def yX6_saved : MethodName := ⟨RX6, "saved", "(I)I"⟩
abbrev cX6_owes : ByteArray := prog_8_method_42_code
def yX6_owes : MethodName := ⟨RX6, "owes", "(II)Z"⟩
abbrev cX6_weeksForNine : ByteArray := prog_8_method_43_code
def yX6_weeksForNine : MethodName := ⟨RX6, "weeksForNine", "(I)I"⟩
abbrev cX6_mark : ByteArray := prog_8_method_44_code
def yX6_mark : MethodName := ⟨RX6, "mark", "(II)I"⟩
abbrev cX6_strength : ByteArray := prog_8_method_45_code
def yX6_strength : MethodName := ⟨RX6, "strength", "(II)I"⟩
abbrev cX6_keepPast : ByteArray := prog_8_method_46_code
def yX6_keepPast : MethodName := ⟨RX6, "keepPast", "()V"⟩
abbrev cX6_pass : ByteArray := prog_8_method_47_code
def yX6_pass : MethodName := ⟨RX6, "pass", "()I"⟩
abbrev cX6_isWeek : ByteArray := prog_8_method_48_code
def yX6_isWeek : MethodName := ⟨RX6, "isWeek", "(I)Z"⟩
abbrev cX6_week : ByteArray := prog_8_method_49_code
def yX6_week : MethodName := ⟨RX6, "week", "(I)I"⟩
abbrev cX6_exchange : ByteArray := prog_8_method_50_code
def yX6_exchange : MethodName := ⟨RX6, "exchange", "(II)I"⟩
abbrev cX6_change : ByteArray := prog_8_method_51_code
def yX6_change : MethodName := ⟨RX6, "change", "(II)V"⟩
abbrev cX6_undo : ByteArray := prog_8_method_52_code
def yX6_undo : MethodName := ⟨RX6, "undo", "(I)I"⟩
abbrev cX6_copyTown : ByteArray := prog_8_method_53_code
def yX6_copyTown : MethodName := ⟨RX6, "copyTown", "(II)V"⟩
abbrev cX6_keep : ByteArray := prog_8_method_54_code
def yX6_keep : MethodName := ⟨RX6, "keep", "(I)I"⟩
abbrev cX6_on : ByteArray := prog_8_method_55_code
def yX6_on : MethodName := ⟨RX6, "on", "(I)I"⟩
abbrev cX6_ringOf : ByteArray := prog_8_method_56_code
def yX6_ringOf : MethodName := ⟨RX6, "ringOf", "(I)I"⟩
abbrev cX6_rings : ByteArray := prog_8_method_57_code
def yX6_rings : MethodName := ⟨RX6, "rings", "()I"⟩
abbrev cX6_allies : ByteArray := prog_8_method_58_code
def yX6_allies : MethodName := ⟨RX6, "allies", "(I)I"⟩
abbrev cX6_safe : ByteArray := prog_8_method_59_code
def yX6_safe : MethodName := ⟨RX6, "safe", "()I"⟩
abbrev cX6_weeksOf : ByteArray := prog_8_method_60_code
def yX6_weeksOf : MethodName := ⟨RX6, "weeksOf", "(III)I"⟩
abbrev cX6_weeks : ByteArray := prog_8_method_61_code
def yX6_weeks : MethodName := ⟨RX6, "weeks", "(II)I"⟩
abbrev cX6_thwart : ByteArray := prog_8_method_62_code
def yX6_thwart : MethodName := ⟨RX6, "thwart", "(II)I"⟩
abbrev cX6_isReachedBy : ByteArray := prog_8_method_63_code
def yX6_isReachedBy : MethodName := ⟨RX6, "isReachedBy", "(III)Z"⟩
abbrev cX6_ways : ByteArray := prog_8_method_64_code
def yX6_ways : MethodName := ⟨RX6, "ways", "(II)I"⟩
abbrev cX6_wish : ByteArray := prog_8_method_65_code
def yX6_wish : MethodName := ⟨RX6, "wish", "(II)Z"⟩
abbrev cX6_wishes : ByteArray := prog_8_method_66_code
def yX6_wishes : MethodName := ⟨RX6, "wishes", "()I"⟩
abbrev cX6_victimsNow : ByteArray := prog_8_method_67_code
def yX6_victimsNow : MethodName := ⟨RX6, "victimsNow", "()I"⟩
abbrev cX6_leftOf : ByteArray := prog_8_method_68_code
def yX6_leftOf : MethodName := ⟨RX6, "leftOf", "(I)I"⟩
abbrev cX6_nextTried : ByteArray := prog_8_method_69_code
def yX6_nextTried : MethodName := ⟨RX6, "nextTried", "()Z"⟩
abbrev cX6_strengthsTried : ByteArray := prog_8_method_70_code
def yX6_strengthsTried : MethodName := ⟨RX6, "strengthsTried", "()I"⟩
abbrev cX6_mildest : ByteArray := prog_8_method_71_code
def yX6_mildest : MethodName := ⟨RX6, "mildest", "(I)I"⟩
abbrev cX6_isMap : ByteArray := prog_8_method_72_code
def yX6_isMap : MethodName := ⟨RX6, "isMap", "(I)Z"⟩
abbrev cX6_none : ByteArray := prog_8_method_73_code
def yX6_none : MethodName := ⟨RX6, "none", "(I)I"⟩
abbrev cX6_of : ByteArray := prog_8_method_74_code
def yX6_of : MethodName := ⟨RX6, "of", "(II)I"⟩
abbrev cX6_layMaps : ByteArray := prog_8_method_75_code
def yX6_layMaps : MethodName := ⟨RX6, "layMaps", "(Z)V"⟩
abbrev cX6_tellParts : ByteArray := prog_8_method_76_code
def yX6_tellParts : MethodName := ⟨RX6, "tellParts", "(JJ)I"⟩
abbrev cX6_tellMany : ByteArray := prog_8_method_77_code
def yX6_tellMany : MethodName := ⟨RX6, "tellMany", "(I)I"⟩
abbrev cX6_maps : ByteArray := prog_8_method_78_code
def yX6_maps : MethodName := ⟨RX6, "maps", "()I"⟩
abbrev cX6_odds : ByteArray := prog_8_method_79_code
def yX6_odds : MethodName := ⟨RX6, "odds", "(II)I"⟩
abbrev cX6_both : ByteArray := prog_8_method_80_code
def yX6_both : MethodName := ⟨RX6, "both", "(II)I"⟩
abbrev cX6_victimsOf : ByteArray := prog_8_method_81_code
def yX6_victimsOf : MethodName := ⟨RX6, "victimsOf", "(II)I"⟩
abbrev cX6_layFits : ByteArray := prog_8_method_82_code
def yX6_layFits : MethodName := ⟨RX6, "layFits", "(I)I"⟩
abbrev cX6_fits : ByteArray := prog_8_method_83_code
def yX6_fits : MethodName := ⟨RX6, "fits", "(I)I"⟩
abbrev cX6_sure : ByteArray := prog_8_method_84_code
def yX6_sure : MethodName := ⟨RX6, "sure", "(II)I"⟩
abbrev cX6_mostLeft : ByteArray := prog_8_method_85_code
def yX6_mostLeft : MethodName := ⟨RX6, "mostLeft", "(I)I"⟩
abbrev cX6_ask : ByteArray := prog_8_method_86_code
def yX6_ask : MethodName := ⟨RX6, "ask", "(I)I"⟩
abbrev cX6_lots : ByteArray := prog_8_method_87_code
def yX6_lots : MethodName := ⟨RX6, "lots", "(II)I"⟩
abbrev cX6_asked : ByteArray := prog_8_method_88_code
def yX6_asked : MethodName := ⟨RX6, "asked", "()I"⟩
abbrev cX6_upper : ByteArray := prog_8_method_89_code
def yX6_upper : MethodName := ⟨RX6, "upper", "()J"⟩
abbrev cX6_lower : ByteArray := prog_8_method_90_code
def yX6_lower : MethodName := ⟨RX6, "lower", "()J"⟩
abbrev cX6_sumFrom : ByteArray := prog_8_method_91_code
def yX6_sumFrom : MethodName := ⟨RX6, "sumFrom", "(I)I"⟩
abbrev cX6_zealots : ByteArray := prog_8_method_92_code
def yX6_zealots : MethodName := ⟨RX6, "zealots", "()I"⟩
abbrev cX6_thereOf : ByteArray := prog_8_method_93_code
def yX6_thereOf : MethodName := ⟨RX6, "thereOf", "(I)I"⟩
abbrev cX6_countOf : ByteArray := prog_8_method_94_code
def yX6_countOf : MethodName := ⟨RX6, "countOf", "(I)I"⟩
abbrev cX6_count : ByteArray := prog_8_method_95_code
def yX6_count : MethodName := ⟨RX6, "count", "(I)I"⟩
abbrev cX6_finding : ByteArray := prog_8_method_96_code
def yX6_finding : MethodName := ⟨RX6, "finding", "()I"⟩
abbrev cX6_findings : ByteArray := prog_8_method_97_code
def yX6_findings : MethodName := ⟨RX6, "findings", "(I)I"⟩
abbrev cX6_digest : ByteArray := prog_8_method_98_code
def yX6_digest : MethodName := ⟨RX6, "digest", "()J"⟩
def RJ6 : String := "java/lang/Integer"
def TJ6 : u_T := fun k => match k with
  | _ => ("", "", "", false)
def tyJ6 : Nat → FieldType := fun k => match k with
  | _ => .int
abbrev wsJ60 : List Cond := u_ws RJ6 TJ6 0
theorem nmJ6 : ∀ a, a < 0 → ∀ b, b < 0 → a ≠ b → (TJ6 a).2.1 ≠ (TJ6 b).2.1 := by decide +kernel
theorem tyJ6_ok : ∀ k, k < 0 → parseFieldDescriptor (TJ6 k).2.2.1 = some (tyJ6 k) := by decide +kernel
abbrev cJ6_bitCount_0f7a4 : ByteArray := prog_9_method_49_code
def yJ6_bitCount_0f7a4 : MethodName := ⟨RJ6, "bitCount", "(I)I"⟩
def RJ9 : String := "java/lang/Math"
def TJ9 : u_T := fun k => match k with
  | _ => ("", "", "", false)
def tyJ9 : Nat → FieldType := fun k => match k with
  | _ => .int
abbrev wsJ90 : List Cond := u_ws RJ9 TJ9 0
theorem nmJ9 : ∀ a, a < 0 → ∀ b, b < 0 → a ≠ b → (TJ9 a).2.1 ≠ (TJ9 b).2.1 := by decide +kernel
theorem tyJ9_ok : ∀ k, k < 0 → parseFieldDescriptor (TJ9 k).2.2.1 = some (tyJ9 k) := by decide +kernel
abbrev cJ9_max_7cf53 : ByteArray := prog_10_method_65_code
def yJ9_max_7cf53 : MethodName := ⟨RJ9, "max", "(II)I"⟩
abbrev cJ9_min_7cf53 : ByteArray := prog_10_method_69_code
def yJ9_min_7cf53 : MethodName := ⟨RJ9, "min", "(II)I"⟩
def RJ10 : String := "java/lang/System"
def TJ10 : u_T := fun k => match k with
  | _ => ("", "", "", false)
def tyJ10 : Nat → FieldType := fun k => match k with
  | _ => .int
abbrev wsJ100 : List Cond := u_ws RJ10 TJ10 0
theorem nmJ10 : ∀ a, a < 0 → ∀ b, b < 0 → a ≠ b → (TJ10 a).2.1 ≠ (TJ10 b).2.1 := by decide +kernel
theorem tyJ10_ok : ∀ k, k < 0 → parseFieldDescriptor (TJ10 k).2.2.1 = some (tyJ10 k) := by decide +kernel
def RJ7 : String := "java/util/Arrays"
def TJ7 : u_T := fun k => match k with
  | _ => ("", "", "", false)
def tyJ7 : Nat → FieldType := fun k => match k with
  | _ => .int
abbrev wsJ70 : List Cond := u_ws RJ7 TJ7 0
theorem nmJ7 : ∀ a, a < 0 → ∀ b, b < 0 → a ≠ b → (TJ7 a).2.1 ≠ (TJ7 b).2.1 := by decide +kernel
theorem tyJ7_ok : ∀ k, k < 0 → parseFieldDescriptor (TJ7 k).2.2.1 = some (tyJ7 k) := by decide +kernel
abbrev cJ7_fill_53178 : ByteArray := prog_12_method_103_code
def yJ7_fill_53178 : MethodName := ⟨RJ7, "fill", "([II)V"⟩

abbrev jj_cl : List vw_C := [(RX0, TX0, 5), (RX1, TX1, 7), (RX2, TX2, 2), (RX3, TX3, 1), (RX4, TX4, 5), (RX5, TX5, 14), (RX6, TX6, 28)]
end
section
/-! ===== the abstract heap: cells in a row, from the base address on; the judgement J over it ===== -/
abbrev AV : Type := Int32 ⊕ (Int64 ⊕ (Option Nat ⊕ Bool))
abbrev Cel : Type := List Int32 ⊕ ((Nat × List (Option Nat)) ⊕ (Nat × List AV))
abbrev AH : Type := List Cel
/-- base, the script's address, LETTERS' address, classes, array classes, the script -/
abbrev GX : Type := Nat × Nat × Nat × va_G × (ClassId × ClassId × ClassId) × Nat × (Nat → Int32)
/-- name, code, locals, answer, new cells, new slots -/
abbrev MD : Type := MethodName × ByteArray × Nat × Option FieldType × Nat × Nat
def jN (g : GX) : Nat := g.1
def jb (g : GX) : Nat := g.2.1
def jt (g : GX) : Nat := g.2.2.1
def jD (g : GX) : va_G := g.2.2.2.1
def jC (g : GX) : ClassId × ClassId × ClassId := g.2.2.2.2.1
def jL (g : GX) : Nat := g.2.2.2.2.2.1
def jX (g : GX) : Nat → Int32 := g.2.2.2.2.2.2
def jA (g : GX) : Nat → Prop := fun q => jN g ≤ q
def jcv (g : GX) : AV → Value
  | .inl x => .int x
  | .inr (.inl x) => .long x
  | .inr (.inr (.inl none)) => .null
  | .inr (.inr (.inl (some k))) => .ref (jN g + k)
  | .inr (.inr (.inr true)) => .ref (jt g)
  | .inr (.inr (.inr false)) => .ref (jb g)
def jce (g : GX) : Cel → va_E
  | .inl xs => .inl ((jC g).1, xs.length, .inl (fun j => xs.getD j 0))
  | .inr (.inl (t, rs)) => .inl (if t = 0 then (jC g).2.1 else (jC g).2.2, rs.length, .inr (.inr (.inr (.inr (fun j => (rs.getD j none).map (fun k => jN g + k))))))
  | .inr (.inr (c, fs)) => .inr (c, fs.map (jcv g))
def jw (g : GX) (ah : AH) : va_W := ah.mapIdx (fun k e => (jN g + k, jce g e))
theorem jw_get {g : GX} {ah : AH} {k : Nat} {e : Cel} (h : ah[k]? = some e) : (jw g ah)[k]? = some (jN g + k, jce g e) := by
  simp [jw, List.getElem?_mapIdx, h]
theorem jw_inv {g : GX} {ah : AH} {k : Nat} {q : Nat × va_E} (h : (jw g ah)[k]? = some q) : q.1 = jN g + k ∧ k < ah.length := by
  simp only [jw, List.getElem?_mapIdx, Option.map_eq_some_iff] at h
  obtain ⟨e, h1, h2⟩ := h
  subst h2
  exact ⟨rfl, (List.getElem?_eq_some_iff.mp h1).1⟩
theorem jw_set (g : GX) (ah : AH) (k : Nat) (e : Cel) : jw g (ah.set k e) = (jw g ah).set k (jN g + k, jce g e) := by
  apply List.ext_getElem?
  intro i
  simp only [jw, List.getElem?_mapIdx, List.getElem?_set, List.length_mapIdx]
  by_cases h : k = i
  · subst h
    by_cases h2 : k < ah.length <;> simp [h2]
  · simp [h]
theorem jw_app (g : GX) (ah : AH) (e : Cel) : jw g (ah ++ [e]) = jw g ah ++ [(jN g + ah.length, jce g e)] := by
  simp [jw, List.mapIdx_append]
theorem jw_len (g : GX) (ah : AH) : (jw g ah).length = ah.length := by simp [jw]
theorem jw_D (g : GX) (ah : AH) : va_D (jA g) (jw g ah) := by
  refine ⟨fun i j p q hi hj hpq => ?_, fun k q hk => ?_⟩
  · have h1 := (jw_inv hi).1
    have h2 := (jw_inv hj).1
    omega
  · have h1 := (jw_inv hk).1
    show jN g ≤ q.1
    omega
def jTy (g : GX) : List (ClassId × FieldType) := [((jC g).1, .int), ((jC g).2.1, .object "EnemyByLot$Line"), ((jC g).2.2, .object "EnemyByLot$Town")]
abbrev jK (g : GX) (U : State) : Prop := va_K (jD g) jj_cl (jTy g) U
def jlet (j : Nat) : Int32 := [112, 122, 115, 104, 119, 108].getD j 0
/-- what stands below the base, and the nest's words -/
def jAm (g : GX) (U : State) (H : Heap) : Prop :=
  va_X (jb g) (jL g) (jX g) U H ∧ jb g < jN g ∧ va_Z "EnemyByLot" "LETTERS" "[I" (.ref (jt g)) (jA g) U H ∧ va_T .int (jt g) 6 (fun j => .int (jlet j)) (jA g) U H ∧
  (∀ a i b n d h, Cond.fieldLinkNest a i b n d h ∈ lw_tbl → va_Nw (.fieldLinkNest a i b n d h) U) ∧ (∀ a i x h, Cond.methodLinkNest a i x h ∈ lw_tbl → va_Nw (.methodLinkNest a i x h) U) ∧ va_AO "EnemyByLot$Line" U ∧ va_AO "EnemyByLot$Town" U
def jBG : List Cond := lw_tbl.filter goodWord
theorem jBG_good {w0 : Cond} {w : Cond} (h : w ∈ jBG) : GoodIn (w0 :: jBG) (w :: jBG) := by
  have key : ∀ x ∈ jBG, x ∈ w0 :: jBG ∧ ((x.onTables && x.keeps) = true ∨ ∃ ty, x = .arrayClass ty) := fun x hx =>
    ⟨List.mem_cons_of_mem _ hx, good_of_word (List.mem_filter.mp hx).2⟩
  intro x hx
  rcases List.mem_cons.mp hx with rfl | hx
  · exact key _ h
  · exact key _ hx
theorem jBG_of {w : Cond} (n : Nat) (h : lw_tbl[n]? = some w) (hg : goodWord w = true) : w ∈ jBG := List.mem_filter.mpr ⟨List.mem_of_getElem? h, hg⟩
def jCx (g : GX) (md : MD) (p : Program) (s : State) (m : MethodId) (args : Array Value) (meth : Method) (c : Code) : Prop :=
  p.tables.exec = Jvm.exec ∧ c.code = md.2.1 ∧ meth.sig.returnType = md.2.2.2.1 ∧ c.maxLocals = md.2.2.1 ∧ s.vm.findClass md.1.cls = some m.cls ∧ (∀ w ∈ jBG, w.before args s = true) ∧ meth.locks = false ∧ meth.name = md.1.name ∧ jK g s ∧ jAm g s s.heap ∧ jN g ≤ s.heap.size
abbrev jQ : Type := List Frame → Array Value → State → State → Prop
def J (l : Launch) (g : GX) (md : MD) (R : Room) (Q : jQ) (pc : Nat) (ls : List (Nat × AV)) (st : List AV) (ah : AH) (cs : Nat × Nat) : Prop :=
  ∀ (p : Program) (e : Env) (s : State) (m : MethodId) (args : Array Value) (below : List Frame) (meth : Method) (c : Code) (H : Heap) (locs : List Loc) (la : Array Slot),
    jCx g md p s m args meth c → s.heap.size + cs.1 = jN g + ah.length → va_P (jD g) jj_cl (jw g ah) H → va_S (jA g) s.heap H locs → lv_has la md.2.2.1 (ls.map fun q => (q.1, jcv g q.2)) →
    W p l e R s m args below meth c H locs cs.1 cs.2 (Q below args s) (F0 m pc la (st.map (jcv g)))
/-- how large the heap is: by the last cell, and by the room -/
theorem jsz {p : Program} {l : Launch} {e : Env} {R : Room} {s : State} {m : MethodId} {args : Array Value} {below : List Frame} {meth : Method} {c : Code} {T : State} {H : Heap} {locs : List Loc} {cells slots : Nat} {g : GX} {ah : AH} (X : Stand p l e R s m args below meth c T locs cells slots) (hT : T.heap = H) (hz : s.heap.size + cells = jN g + ah.length) (hP : va_P (jD g) jj_cl (jw g ah) H) (hS : va_S (jA g) s.heap H locs) (hN : jN g ≤ s.heap.size) : H.size = jN g + ah.length := by
  have h1 := X.heapSize
  rw [hT] at h1
  have h2 := hS.1
  cases hn : ah.length with
  | zero => omega
  | succ n =>
    have h3 : n < (jw g ah).length := by rw [jw_len]; omega
    have h4 : (jw g ah)[n]? = some ((jw g ah)[n]) := List.getElem?_eq_getElem h3
    have h5 := (hP n _ h4).lt
    have h6 := (jw_inv h4).1
    omega
/-- the world of a state -/
def jU (g : GX) (ah : AH) (U : State) : Prop := U.heap.size = jN g + ah.length ∧ va_P (jD g) jj_cl (jw g ah) U.heap ∧ jK g U
def jQc (g : GX) (mc : Nat) (r : Option AV) (ah : AH) : Array Value → State → Outcome → State → Prop := fun _ st o t => o = .returned (r.map (jcv g)) ∧ (va_P (jD g) jj_cl (jw g ah) t.heap ∧ jK g t) ∧ va_F (jA g) st t ∧ st.heap.size + mc = jN g + ah.length
def jRm (d : Nat) (md : MD) : Room := { frames := d, cells := md.2.2.2.2.1, slots := md.2.2.2.2.2, locals := 64 * d }
def jWs (md : MD) : List Cond := Cond.code md.1 md.2.1 md.2.2.1 md.2.2.2.1 :: jBG
/-- a method's contract: from the abstract heap ah to ah', with the answer r -/
def jM (l : Launch) (g : GX) (d : Nat) (md : MD) (av : List AV) (ah : AH) (r : Option AV) (ah' : AH) : Prop :=
  Met l md.1 (jWs md) (jRm d md) (va_Pc (av.map (jcv g)) (fun U => jU g ah U ∧ jAm g U U.heap)) (jQc g md.2.2.2.2.1 r ah') md.2.2.2.2.1 md.2.2.2.2.2 (jA g)
def jQm (g : GX) (md : MD) (r : Option AV) (ah' : AH) : jQ := fun below args s => MQ below (jQc g md.2.2.2.2.1 r ah') args s md.2.2.2.2.1 md.2.2.2.2.2 (jA g)
def jlv : Nat → List AV → List (Nat × AV)
  | _, [] => []
  | k, v :: r => (k, v) :: jlv (k + (match v with | .inr (.inl _) => 2 | _ => 1)) r
theorem jlv_args (g : GX) : ∀ (k : Nat) (av : List AV), lv_args k (av.map (jcv g)) = (jlv k av).map fun q => (q.1, jcv g q.2)
  | _, [] => rfl
  | k, v :: r => by
    obtain x | x | (_ | x) | (_ | _) := v <;> simp [lv_args, jlv, jcv, Value.category, jlv_args g]
def jwd (av : List AV) : Nat := (av.map fun v => (match v with | .inr (.inl _) => 2 | _ => 1)).sum
theorem jlg_len (g : GX) : ∀ (av : List AV), (lg_sl (av.map (jcv g))).length = jwd av
  | [] => rfl
  | v :: r => by
    have ih := jlg_len g r
    simp only [lg_sl, jwd, List.map_cons, List.flatMap_cons, List.length_append, List.sum_cons] at ih ⊢
    rw [ih]
    obtain x | x | (_ | x) | (_ | _) := v <;> simp [jcv, Value.category]
/-- a method's contract out of the walk of its body -/
theorem jM_of {l : Launch} {g : GX} {d : Nat} {md : MD} {av : List AV} {ah : AH} {r : Option AV} {ah' : AH} (hy : plainName md.1.cls = true) (hn : jwd av ≤ md.2.2.1)
    (h : J l g md (jRm d md) (jQm g md r ah') 0 (jlv 0 av) [] ah (0, 0)) : jM l g d md av ah r ah' := by
  refine Met.ofW (cc := md.2.1) (maxL := md.2.2.1) (ret := md.2.2.2.1) hy rfl ?_
  intro p e s m args below meth c s₁ B hml hv
  obtain ⟨rfl, ⟨hz, hP, hK⟩, hAm⟩ := hv
  have hts := atoms_spec (ws := jWs md) B.pre
  have hl := lv_entry (av.map (jcv g)) (n := md.2.2.1) (by rw [jlg_len]; exact hn)
  rw [lg_entry_eq]
  generalize (lg_sl (av.map (jcv g)) ++ List.replicate (md.2.2.1 - (lg_sl (av.map (jcv g))).length) Slot.unset).toArray = ls at hl ⊢
  rw [jlv_args] at hl
  exact h p e s m _ below meth c s.heap [] ls ⟨B.exec, B.bytes, B.returns, hml, findClass_of_methodNamed B.named, fun w hw => hts w (List.mem_cons_of_mem _ hw), B.notSynchronized, (name_of_methodNamed B.named B.method).1, hK, hAm, by omega⟩ hz hP va_S.rf hl
end
section
/-! ===== plain instructions as a function; a run of them ===== -/
def jld : List (Nat × AV) → Nat → Option AV
  | [], _ => none
  | (k, v) :: r, i => if k = i then some v else jld r i
def jisL : AV → Bool
  | .inr (.inl _) => true
  | _ => false
def jst1 (ls : List (Nat × AV)) (i : Nat) (v : AV) : List (Nat × AV) := (i, v) :: ls.filter (fun q => !(q.1 == i) && !(q.1 + 1 == i && jisL q.2))
def jst2 (ls : List (Nat × AV)) (i : Nat) (v : AV) : List (Nat × AV) := (i, v) :: ls.filter (fun q => !(q.1 == i) && (!(q.1 == i + 1) && !(q.1 + 1 == i && jisL q.2)))
theorem jcat (g : GX) (v : AV) : ((jcv g v).category == 2) = jisL v := by
  obtain x | x | (_ | x) | (_ | _) := v <;> rfl
theorem jld_mem : ∀ {ls : List (Nat × AV)} {i : Nat} {v : AV}, jld ls i = some v → (i, v) ∈ ls
  | [], _, _, h => by cases h
  | (k, w) :: r, i, v, h => by
    unfold jld at h
    by_cases hk : k = i
    · rw [if_pos hk] at h
      cases h
      subst hk
      exact List.mem_cons_self
    · rw [if_neg hk] at h
      exact List.mem_cons_of_mem _ (jld_mem h)
theorem jld_at {g : GX} {la : Array Slot} {n : Nat} {ls : List (Nat × AV)} (hl : lv_has la n (ls.map fun q => (q.1, jcv g q.2))) {i : Nat} {v : AV} (h : jld ls i = some v) : la[i]? = some (.val (jcv g v)) :=
  hl.2.2 (i, jcv g v) (List.mem_map.mpr ⟨(i, v), jld_mem h, rfl⟩)
theorem jst1_eq (g : GX) (ls : List (Nat × AV)) (i : Nat) (v : AV) : (i, jcv g v) :: (ls.map fun q => (q.1, jcv g q.2)).filter (fun q => !(q.1 == i) && !(q.1 + 1 == i && q.2.category == 2)) = (jst1 ls i v).map fun q => (q.1, jcv g q.2) := by
  simp only [jst1, List.map_cons, List.filter_map, List.cons.injEq, true_and]
  congr 1
  apply List.filter_congr
  intro q _
  simp only [Function.comp, jcat]
theorem jst2_eq (g : GX) (ls : List (Nat × AV)) (i : Nat) (v : AV) : (i, jcv g v) :: (ls.map fun q => (q.1, jcv g q.2)).filter (fun q => !(q.1 == i) && (!(q.1 == i + 1) && !(q.1 + 1 == i && q.2.category == 2))) = (jst2 ls i v).map fun q => (q.1, jcv g q.2) := by
  simp only [jst2, List.map_cons, List.filter_map, List.cons.injEq, true_and]
  congr 1
  apply List.filter_congr
  intro q _
  simp only [Function.comp, jcat]
def jlen : Instr → Nat
  | .bipush _ | .iload _ | .lload _ | .aload _ | .istore _ | .lstore _ | .astore _ | .newarray _ => 2
  | .sipush _ | .iinc _ _ | .goto _ | .ifCond _ _ | .if_icmp _ _ | .ifnull _ | .ifnonnull _ | .getfield _ | .putfield _ | .getstatic _ | .new _ | .anewarray _ | .invokevirtual _ | .invokespecial _ | .invokestatic _ | .ldc2_w _ | .ldc_w _ => 3
  | _ => 1
abbrev JF : Type := Nat × List (Nat × AV) × List AV
def jI (mL : Nat) (i : Nat) (pc : Nat) (ls : List (Nat × AV)) : List AV → Option JF
  | .inl x :: st => if i < mL then some (pc, jst1 ls i (.inl x), st) else none
  | _ => none
def jLo (mL : Nat) (i : Nat) (pc : Nat) (ls : List (Nat × AV)) : List AV → Option JF
  | .inr (.inl x) :: st => if i + 1 < mL then some (pc, jst2 ls i (.inr (.inl x)), st) else none
  | _ => none
def jRe (mL : Nat) (i : Nat) (pc : Nat) (ls : List (Nat × AV)) : List AV → Option JF
  | .inr (.inr (.inl x)) :: st => if i < mL then some (pc, jst1 ls i (.inr (.inr (.inl x))), st) else none
  | _ => none
def jlI (i : Nat) (pc : Nat) (ls : List (Nat × AV)) (st : List AV) : Option JF :=
  match jld ls i with
  | some (.inl x) => some (pc, ls, .inl x :: st)
  | _ => none
def jlL (i : Nat) (pc : Nat) (ls : List (Nat × AV)) (st : List AV) : Option JF :=
  match jld ls i with
  | some (.inr (.inl x)) => some (pc, ls, .inr (.inl x) :: st)
  | _ => none
def jlR (i : Nat) (pc : Nat) (ls : List (Nat × AV)) (st : List AV) : Option JF :=
  match jld ls i with
  | some (.inr (.inr x)) => some (pc, ls, .inr (.inr x) :: st)
  | _ => none
def jb2 (f : Int32 → Int32 → Int32) (pc : Nat) (ls : List (Nat × AV)) : List AV → Option JF
  | .inl y :: .inl x :: st => some (pc, ls, .inl (f x y) :: st)
  | _ => none
def jb3 (f : Int64 → Int64 → Int64) (pc : Nat) (ls : List (Nat × AV)) : List AV → Option JF
  | .inr (.inl y) :: .inr (.inl x) :: st => some (pc, ls, .inr (.inl (f x y)) :: st)
  | _ => none
def jstp (mL : Nat) (i : Instr) (pc : Nat) (ls : List (Nat × AV)) (st : List AV) : Option JF :=
  match i with
  | .iconst v => some (pc + 1, ls, .inl (Int32.ofInt v) :: st)
  | .bipush v => some (pc + 2, ls, .inl (Int8.ofInt v).toInt32 :: st)
  | .sipush v => some (pc + 3, ls, .inl (Int16.ofInt v).toInt32 :: st)
  | .lconst v => some (pc + 1, ls, .inr (.inl (Int64.ofNat (v : Nat))) :: st)
  | .aconst_null => some (pc + 1, ls, .inr (.inr (.inl none)) :: st)
  | .iload k => jlI k (pc + 2) ls st
  | .iload_n k => jlI (k : Nat) (pc + 1) ls st
  | .lload k => jlL k (pc + 2) ls st
  | .lload_n k => jlL (k : Nat) (pc + 1) ls st
  | .aload k => jlR k (pc + 2) ls st
  | .aload_n k => jlR (k : Nat) (pc + 1) ls st
  | .istore k => jI mL k (pc + 2) ls st
  | .istore_n k => jI mL (k : Nat) (pc + 1) ls st
  | .lstore k => jLo mL k (pc + 2) ls st
  | .lstore_n k => jLo mL (k : Nat) (pc + 1) ls st
  | .astore k => jRe mL k (pc + 2) ls st
  | .astore_n k => jRe mL (k : Nat) (pc + 1) ls st
  | .iinc k v => (match jld ls k with
    | some (.inl x) => if k < mL then some (pc + 3, jst1 ls k (.inl (x + Int32.ofInt v)), st) else none
    | _ => none)
  | .iadd => jb2 (fun x y => x + y) (pc + 1) ls st
  | .isub => jb2 (fun x y => x - y) (pc + 1) ls st
  | .imul => jb2 (fun x y => x * y) (pc + 1) ls st
  | .iand => jb2 (fun x y => x &&& y) (pc + 1) ls st
  | .ior => jb2 (fun x y => x ||| y) (pc + 1) ls st
  | .ixor => jb2 (fun x y => x ^^^ y) (pc + 1) ls st
  | .ishl => jb2 (fun x y => x <<< (y &&& 31)) (pc + 1) ls st
  | .ishr => jb2 (fun x y => x >>> (y &&& 31)) (pc + 1) ls st
  | .iushr => jb2 (fun x y => (x.toUInt32 >>> (y.toUInt32 &&& Int32.toUInt32 31)).toInt32) (pc + 1) ls st
  | .ladd => jb3 (fun x y => x + y) (pc + 1) ls st
  | .lmul => jb3 (fun x y => x * y) (pc + 1) ls st
  | .lcmp => (match st with
    | .inr (.inl y) :: .inr (.inl x) :: st => some (pc + 1, ls, .inl (lg_cmp x y) :: st)
    | _ => none)
  | .i2l => (match st with
    | .inl x :: st => some (pc + 1, ls, .inr (.inl x.toInt64) :: st)
    | _ => none)
  | .l2i => (match st with
    | .inr (.inl x) :: st => some (pc + 1, ls, .inl x.toInt32 :: st)
    | _ => none)
  | .i2b => (match st with
    | .inl x :: st => some (pc + 1, ls, .inl x.toInt8.toInt32 :: st)
    | _ => none)
  | .dup => (match st with
    | .inr (.inr x) :: st => some (pc + 1, ls, .inr (.inr x) :: .inr (.inr x) :: st)
    | .inl x :: st => some (pc + 1, ls, .inl x :: .inl x :: st)
    | _ => none)
  | .dup2 => (match st with
    | .inl x :: .inr (.inr y) :: st => some (pc + 1, ls, .inl x :: .inr (.inr y) :: .inl x :: .inr (.inr y) :: st)
    | _ => none)
  | .goto off => if 0 ≤ (pc : Int) + off then some (((pc : Int) + off).toNat, ls, st) else none
  | _ => none
section
variable {l : Launch} {g : GX} {md : MD} {R : Room} {Q : jQ} {pc : Nat} {ls : List (Nat × AV)} {st : List AV} {ah : AH} {cs : Nat × Nat}
theorem J_stp {i : Instr} {pc' : Nat} {ls' : List (Nat × AV)} {st' : List AV} (hd : decode md.2.1 pc = .ok (i, jlen i)) (h : jstp md.2.2.1 i pc ls st = some (pc', ls', st')) (k : J l g md R Q pc' ls' st' ah cs) : J l g md R Q pc ls st ah cs := by
  intro p e s m args below meth c H locs la hC hz hP hS hl
  have kk := fun la' hl' => k p e s m args below meth c H locs la' hC hz hP hS hl'
  obtain ⟨hx, hb, -⟩ := hC
  unfold jstp at h
  split at h
  · cases h; exact lv_iconst hx hb hd rfl (kk la hl)
  · cases h; exact lv_bipush hx hb hd rfl (kk la hl)
  · cases h; exact lv_sipush hx hb hd rfl (kk la hl)
  · cases h; exact lv_lconst hx hb hd rfl (kk la hl)
  · cases h; exact lv_null hx hb hd (kk la hl)
  · unfold jlI at h
    split at h
    · rename_i hq
      cases h; exact lv_iload hx hb hd (jld_at hl hq) (kk la hl)
    · cases h
  · unfold jlI at h
    split at h
    · rename_i hq
      cases h; exact lv_iload_n hx hb hd rfl (jld_at hl hq) (kk la hl)
    · cases h
  · unfold jlL at h
    split at h
    · rename_i hq
      cases h; exact lv_lload hx hb hd (jld_at hl hq) (kk la hl)
    · cases h
  · unfold jlL at h
    split at h
    · rename_i hq
      cases h; exact lv_lload_n hx hb hd rfl (jld_at hl hq) (kk la hl)
    · cases h
  · unfold jlR at h
    split at h
    · rename_i v hq
      cases h
      obtain (_ | v) | (_ | _) := v
      · exact lv_aloadN hx hb hd (jld_at hl hq) (kk la hl)
      · exact lv_aload hx hb hd (jld_at hl hq) (kk la hl)
      · exact lv_aload hx hb hd (jld_at hl hq) (kk la hl)
      · exact lv_aload hx hb hd (jld_at hl hq) (kk la hl)
    · cases h
  · unfold jlR at h
    split at h
    · rename_i v hq
      cases h
      obtain (_ | v) | (_ | _) := v
      · exact lv_aload_nN hx hb hd rfl (jld_at hl hq) (kk la hl)
      · exact lv_aload_n hx hb hd rfl (jld_at hl hq) (kk la hl)
      · exact lv_aload_n hx hb hd rfl (jld_at hl hq) (kk la hl)
      · exact lv_aload_n hx hb hd rfl (jld_at hl hq) (kk la hl)
    · cases h
  · unfold jI at h
    split at h
    · split at h
      · rename_i hq
        cases h; exact lv_istore hx hb hd hl hq (jst1_eq g _ _ (.inl _)) kk
      · cases h
    · cases h
  · unfold jI at h
    split at h
    · split at h
      · rename_i hq
        cases h; exact lv_istore_n hx hb hd rfl hl hq (jst1_eq g _ _ (.inl _)) kk
      · cases h
    · cases h
  · unfold jLo at h
    split at h
    · split at h
      · rename_i hq
        cases h; exact lv_lstore hx hb hd hl hq (jst2_eq g _ _ (.inr (.inl _))) kk
      · cases h
    · cases h
  · unfold jLo at h
    split at h
    · split at h
      · rename_i hq
        cases h; exact lv_lstore_n hx hb hd rfl hl hq (jst2_eq g _ _ (.inr (.inl _))) kk
      · cases h
    · cases h
  · unfold jRe at h
    split at h
    · rename_i v _
      split at h
      · rename_i hq
        cases h
        obtain _ | v := v
        · exact lv_astoreN hx hb hd hl hq (jst1_eq g _ _ (.inr (.inr (.inl none)))) kk
        · exact lv_astore hx hb hd hl hq (jst1_eq g _ _ (.inr (.inr (.inl (some _))))) kk
      · cases h
    · cases h
  · unfold jRe at h
    split at h
    · rename_i v _
      split at h
      · rename_i hq
        cases h
        obtain _ | v := v
        · exact lv_astore_nN hx hb hd rfl hl hq (jst1_eq g _ _ (.inr (.inr (.inl none)))) kk
        · exact lv_astore_n hx hb hd rfl hl hq (jst1_eq g _ _ (.inr (.inr (.inl (some _))))) kk
      · cases h
    · cases h
  · split at h
    · rename_i hq
      split at h
      · rename_i hn
        cases h
        obtain ⟨j, hj⟩ := List.getElem?_of_mem (jld_mem hq)
        refine lv_iinc hx hb hd hl (k := j) ?_ rfl hn (jst1_eq g _ _ (.inl _)) kk
        rw [List.getElem?_map, hj]
        rfl
      · cases h
    · cases h
  · unfold jb2 at h; split at h <;> cases h; exact lv_iadd hx hb hd (kk la hl)
  · unfold jb2 at h; split at h <;> cases h; exact lv_isub hx hb hd (kk la hl)
  · unfold jb2 at h; split at h <;> cases h; exact lv_imul hx hb hd (kk la hl)
  · unfold jb2 at h; split at h <;> cases h; exact lv_iand hx hb hd (kk la hl)
  · unfold jb2 at h; split at h <;> cases h; exact lv_ior hx hb hd (kk la hl)
  · unfold jb2 at h; split at h <;> cases h; exact lv_ixor hx hb hd (kk la hl)
  · unfold jb2 at h; split at h <;> cases h; exact lv_ishl hx hb hd (kk la hl)
  · unfold jb2 at h; split at h <;> cases h; exact lv_ishr hx hb hd (kk la hl)
  · unfold jb2 at h; split at h <;> cases h; exact lv_iushr hx hb hd rfl (kk la hl)
  · unfold jb3 at h; split at h <;> cases h; exact lv_ladd hx hb hd (kk la hl)
  · unfold jb3 at h; split at h <;> cases h; exact lv_lmul hx hb hd (kk la hl)
  · split at h <;> cases h; exact W.lcmp hx hb hd (kk la hl)
  · split at h <;> cases h; exact lv_i2l hx hb hd rfl (kk la hl)
  · split at h <;> cases h; exact lv_l2i hx hb hd rfl (kk la hl)
  · split at h <;> cases h; exact lv_i2b hx hb hd rfl (kk la hl)
  · split at h
    · rename_i v _
      cases h
      obtain (_ | v) | (_ | _) := v <;> exact lv_dup hx hb hd rfl (kk la hl)
    · cases h; exact lv_dup hx hb hd rfl (kk la hl)
    · cases h
  · split at h
    · rename_i v _
      cases h
      obtain (_ | v) | (_ | _) := v <;> exact lv_dup2_11 hx hb hd rfl rfl (kk la hl)
    · cases h
  · split at h
    · rename_i hq
      cases h; exact lv_goto hx hb hd (by omega) (kk la hl)
    · cases h
  · cases h
def jrun (mL : Nat) : List (Nat × Instr) → Nat → List (Nat × AV) → List AV → Option JF
  | [], pc, ls, st => some (pc, ls, st)
  | (q, i) :: r, pc, ls, st => if q = pc then (match jstp mL i pc ls st with
    | some (pc', ls', st') => jrun mL r pc' ls' st'
    | none => none) else none
def jOk (md : MD) (tb : List (Nat × Instr)) : Prop := ∀ (k : Nat) (e : Nat × Instr), tb[k]? = some e → decode md.2.1 e.1 = .ok (e.2, jlen e.2)
theorem jOk_of {md : MD} {tb : List (Nat × Instr)} (h : tb.all (fun e => decide (decode md.2.1 e.1 = .ok (e.2, jlen e.2))) = true) : jOk md tb := fun k e hk => by
  have h1 := List.all_eq_true.mp h e (List.mem_of_getElem? hk)
  exact of_decide_eq_true h1
theorem J_run (seg : List (Nat × Instr)) : ∀ {pc pc' : Nat} {ls ls' : List (Nat × AV)} {st st' : List AV}, (∀ e ∈ seg, decode md.2.1 e.1 = .ok (e.2, jlen e.2)) → jrun md.2.2.1 seg pc ls st = some (pc', ls', st') → J l g md R Q pc' ls' st' ah cs → J l g md R Q pc ls st ah cs := by
  induction seg with
  | nil =>
    intro pc pc' ls ls' st st' _ h k
    cases h
    exact k
  | cons a r ih =>
    obtain ⟨q, i⟩ := a
    intro pc pc' ls ls' st st' hd h k
    rw [jrun] at h
    by_cases hq : q = pc
    · rw [if_pos hq] at h
      subst hq
      cases hs : jstp md.2.2.1 i q ls st with
      | none =>
        rw [hs] at h
        cases h
      | some f =>
        obtain ⟨fa, fb, fc⟩ := f
        rw [hs] at h
        exact J_stp (hd (q, i) List.mem_cons_self) hs (ih (fun e he => hd e (List.mem_cons_of_mem _ he)) h k)
    · rw [if_neg hq] at h
      cases h
theorem J_seg {tb : List (Nat × Instr)} (ok : jOk md tb) (i n : Nat) {pc' : Nat} {ls' : List (Nat × AV)} {st' : List AV} (h : jrun md.2.2.1 ((tb.drop i).take n) pc ls st = some (pc', ls', st')) (k : J l g md R Q pc' ls' st' ah cs) : J l g md R Q pc ls st ah cs := by
  refine J_run ((tb.drop i).take n) (fun e he => ?_) h k
  obtain ⟨j, hj⟩ := List.getElem?_of_mem (List.mem_of_mem_drop (List.mem_of_mem_take he))
  exact ok j e hj
end
end
section
/-! ===== the abstract heap's own operations ===== -/
def qf (ah : AH) (o : Option Nat) (c j : Nat) : Option AV :=
  match o with
  | none => none
  | some k => match ah[k]? with
    | some (.inr (.inr (c', fs))) => if c' = c then fs[j]? else none
    | _ => none
def gI (ah : AH) (o : Option Nat) (c j : Nat) : Option Int32 := match qf ah o c j with
  | some (.inl x) => some x
  | _ => none
def gL (ah : AH) (o : Option Nat) (c j : Nat) : Option Int64 := match qf ah o c j with
  | some (.inr (.inl x)) => some x
  | _ => none
def gR (ah : AH) (o : Option Nat) (c j : Nat) : Option (Option Nat) := match qf ah o c j with
  | some (.inr (.inr (.inl x))) => some x
  | _ => none
def sF (ah : AH) (o : Option Nat) (c j : Nat) (v : AV) : Option AH :=
  match o with
  | none => none
  | some k => match ah[k]? with
    | some (.inr (.inr (c', fs))) => if c' = c ∧ j < fs.length then some (ah.set k (.inr (.inr (c', fs.set j v)))) else none
    | _ => none
def gA (ah : AH) (o : Option Nat) (i : Int32) : Option Int32 :=
  match o with
  | none => none
  | some k => match ah[k]? with
    | some (.inl xs) => if i < 0 then none else xs[i.toNatClampNeg]?
    | _ => none
def sA (ah : AH) (o : Option Nat) (i v : Int32) : Option AH :=
  match o with
  | none => none
  | some k => match ah[k]? with
    | some (.inl xs) => if ¬ i < 0 ∧ i.toNatClampNeg < xs.length then some (ah.set k (.inl (xs.set i.toNatClampNeg v))) else none
    | _ => none
def lA (ah : AH) (o : Option Nat) : Option Int32 :=
  match o with
  | none => none
  | some k => match ah[k]? with
    | some (.inl xs) => some (Int32.ofNat xs.length)
    | some (.inr (.inl (_, rs))) => some (Int32.ofNat rs.length)
    | _ => none
def gE (ah : AH) (o : Option Nat) (i : Int32) : Option (Option Nat) :=
  match o with
  | none => none
  | some k => match ah[k]? with
    | some (.inr (.inl (_, rs))) => if i < 0 then none else rs[i.toNatClampNeg]?
    | _ => none
def sE (ah : AH) (o : Option Nat) (i : Int32) (v : Option Nat) : Option AH :=
  match o, v with
  | some k, some k' => match ah[k]?, ah[k']? with
    | some (.inr (.inl (t, rs))), some (.inr (.inr (c, _))) => if (¬ i < 0 ∧ i.toNatClampNeg < rs.length) ∧ ((t = 0 ∧ c = 2) ∨ (t = 1 ∧ c = 4)) then some (ah.set k (.inr (.inl (t, rs.set i.toNatClampNeg (some k'))))) else none
    | _, _ => none
  | _, _ => none
def qO (ah : AH) (o : Option Nat) (c : Nat) : Bool :=
  match o with
  | none => false
  | some k => match ah[k]? with
    | some (.inr (.inr (c', _))) => c' == c
    | _ => false
def gT (i : Int32) : Option Int32 := if ¬ i < 0 ∧ i.toNatClampNeg < 6 then some (jlet i.toNatClampNeg) else none
def gS (g : GX) (i : Int32) : Option Int32 := if ¬ i < 0 ∧ i.toNatClampNeg < jL g then some (jX g i.toNatClampNeg) else none
/-- n ints from sp on of one row come to dp on of another -/
def cpL (xs ys : List Int32) (sp dp n : Nat) : List Int32 := ys.mapIdx (fun k y => if dp ≤ k ∧ k < dp + n then xs.getD (sp + (k - dp)) 0 else y)
def cA (ah : AH) (o : Option Nat) (sp : Int32) (o' : Option Nat) (dp n : Int32) : Option AH :=
  match o, o' with
  | some k, some k' => match ah[k]?, ah[k']? with
    | some (.inl xs), some (.inl ys) => if (¬ sp < 0 ∧ ¬ dp < 0 ∧ ¬ n < 0) ∧ sp.toNatClampNeg + n.toNatClampNeg ≤ xs.length ∧ dp.toNatClampNeg + n.toNatClampNeg ≤ ys.length then some (ah.set k' (.inl (cpL xs ys sp.toNatClampNeg dp.toNatClampNeg n.toNatClampNeg))) else none
    | _, _ => none
  | _, _ => none
/-! what they say of the cells -/
theorem qf_spec {ah : AH} {o : Option Nat} {c j : Nat} {v : AV} (h : qf ah o c j = some v) : ∃ k fs, o = some k ∧ ah[k]? = some (.inr (.inr (c, fs))) ∧ fs[j]? = some v := by
  unfold qf at h
  split at h
  · cases h
  · rename_i k
    split at h
    · rename_i c' fs hc
      split at h
      · rename_i e
        subst e
        exact ⟨k, fs, rfl, hc, h⟩
      · cases h
    · cases h
theorem gI_spec {ah : AH} {o : Option Nat} {c j : Nat} {x : Int32} (h : gI ah o c j = some x) : qf ah o c j = some (.inl x) := by
  unfold gI at h
  split at h
  · rename_i y hy
    cases h
    exact hy
  · cases h
theorem gL_spec {ah : AH} {o : Option Nat} {c j : Nat} {x : Int64} (h : gL ah o c j = some x) : qf ah o c j = some (.inr (.inl x)) := by
  unfold gL at h
  split at h
  · rename_i y hy
    cases h
    exact hy
  · cases h
theorem gR_spec {ah : AH} {o : Option Nat} {c j : Nat} {x : Option Nat} (h : gR ah o c j = some x) : qf ah o c j = some (.inr (.inr (.inl x))) := by
  unfold gR at h
  split at h
  · rename_i y hy
    cases h
    exact hy
  · cases h
theorem sF_spec {ah ah' : AH} {o : Option Nat} {c j : Nat} {v : AV} (h : sF ah o c j v = some ah') : ∃ k fs, o = some k ∧ ah[k]? = some (.inr (.inr (c, fs))) ∧ j < fs.length ∧ ah' = ah.set k (.inr (.inr (c, fs.set j v))) := by
  unfold sF at h
  split at h
  · cases h
  · rename_i k
    split at h
    · rename_i c' fs hc
      split at h
      · rename_i e
        obtain ⟨rfl, e2⟩ := e
        cases h
        exact ⟨k, fs, rfl, hc, e2, rfl⟩
      · cases h
    · cases h
theorem gA_spec {ah : AH} {o : Option Nat} {i x : Int32} (h : gA ah o i = some x) : ∃ k xs, o = some k ∧ ah[k]? = some (.inl xs) ∧ vp_in i xs.length ∧ x = xs.getD i.toNatClampNeg 0 := by
  unfold gA at h
  split at h
  · cases h
  · rename_i k
    split at h
    · rename_i xs hc
      split at h
      · cases h
      · rename_i hi
        have h1 := (List.getElem?_eq_some_iff.mp h).1
        refine ⟨k, xs, rfl, hc, fun q => ?_, by rw [List.getD_eq_getElem?_getD, h]; rfl⟩
        rcases q with q | q
        · exact hi q
        · omega
    · cases h
theorem sA_spec {ah ah' : AH} {o : Option Nat} {i x : Int32} (h : sA ah o i x = some ah') : ∃ k xs, o = some k ∧ ah[k]? = some (.inl xs) ∧ vp_in i xs.length ∧ ah' = ah.set k (.inl (xs.set i.toNatClampNeg x)) := by
  unfold sA at h
  split at h
  · cases h
  · rename_i k
    split at h
    · rename_i xs hc
      split at h
      · rename_i hi
        cases h
        refine ⟨k, xs, rfl, hc, fun q => ?_, rfl⟩
        rcases q with q | q
        · exact hi.1 q
        · have := hi.2
          omega
      · cases h
    · cases h
theorem jce_set (g : GX) (xs : List Int32) (i : Nat) (v : Int32) (h : i < xs.length) : jce g (.inl (xs.set i v)) = .inl ((jC g).1, xs.length, .inl (upd (fun j => xs.getD j 0) i v)) := by
  have e : (fun j => (xs.set i v).getD j 0) = upd (fun j => xs.getD j 0) i v := by
    funext j
    simp only [List.getD_eq_getElem?_getD, List.getElem?_set, upd]
    by_cases hj : i = j
    · subst hj
      simp [h]
    · simp [hj, Ne.symm hj]
  simp only [jce, List.length_set]
  rw [e]
theorem jce_setF (g : GX) (c : Nat) (fs : List AV) (j : Nat) (v : AV) : jce g (.inr (.inr (c, fs.set j v))) = .inr (c, (fs.map (jcv g)).set j (jcv g v)) := by
  simp only [jce, List.map_set]
/-! ===== the tables' words by class ===== -/
def jPt (C : String) (T : u_T) (N : Nat) : Prop := (∀ w ∈ u_ws C T N, w ∈ jBG) ∧ ∃ ty0 : Nat → FieldType, (∀ k, k < N → parseFieldDescriptor (T k).2.2.1 = some (ty0 k)) ∧ ∀ a, a < N → ∀ b, b < N → a ≠ b → (T a).2.1 ≠ (T b).2.1
def jinB (ws : List Cond) : Bool := ws.all (fun w => decide (w ∈ lw_tbl) && goodWord w)
theorem jinB_of {ws : List Cond} (h : jinB ws = true) : ∀ w ∈ ws, w ∈ jBG := fun w hw => by
  have h1 := List.all_eq_true.mp h w hw
  simp only [Bool.and_eq_true, decide_eq_true_eq] at h1
  exact List.mem_filter.mpr ⟨h1.1, h1.2⟩
set_option maxRecDepth 100000 in
theorem jPt0 : jPt RX0 TX0 5 := ⟨jinB_of (by decide +kernel), tyX0, tyX0_ok, nmX0⟩
set_option maxRecDepth 100000 in
theorem jPt1 : jPt RX1 TX1 7 := ⟨jinB_of (by decide +kernel), tyX1, tyX1_ok, nmX1⟩
set_option maxRecDepth 100000 in
theorem jPt2 : jPt RX2 TX2 2 := ⟨jinB_of (by decide +kernel), tyX2, tyX2_ok, nmX2⟩
set_option maxRecDepth 100000 in
theorem jPt3 : jPt RX3 TX3 1 := ⟨jinB_of (by decide +kernel), tyX3, tyX3_ok, nmX3⟩
set_option maxRecDepth 100000 in
theorem jPt4 : jPt RX4 TX4 5 := ⟨jinB_of (by decide +kernel), tyX4, tyX4_ok, nmX4⟩
set_option maxRecDepth 100000 in
theorem jPt5 : jPt RX5 TX5 14 := ⟨jinB_of (by decide +kernel), tyX5, tyX5_ok, nmX5⟩
set_option maxRecDepth 100000 in
theorem jPt6 : jPt RX6 TX6 28 := ⟨jinB_of (by decide +kernel), tyX6, tyX6_ok, nmX6⟩
theorem jPt_all {c : Nat} {q : vw_C} (h : jj_cl[c]? = some q) : jPt q.1 q.2.1 q.2.2 := by
  match c, h with
  | 0, h => cases h; exact jPt0
  | 1, h => cases h; exact jPt1
  | 2, h => cases h; exact jPt2
  | 3, h => cases h; exact jPt3
  | 4, h => cases h; exact jPt4
  | 5, h => cases h; exact jPt5
  | 6, h => cases h; exact jPt6
  | c + 7, h => simp [jj_cl] at h
/-- a site of a field: read -/
def jFL (own : String) (idx c j : Nat) : Prop := ∃ (C : String) (T : u_T) (N : Nat), jj_cl[c]? = some (C, T, N) ∧ j < N ∧ (Cond.fieldLink own idx (T j).1 (T j).2.1 (T j).2.2.1 ∈ jBG ∨ ∃ host, Cond.fieldLinkNest own idx (T j).1 (T j).2.1 (T j).2.2.1 host ∈ lw_tbl)
/-- a site of a field: written -/
def jFP (own name : String) (idx c j : Nat) (ty : FieldType) : Prop := ∃ (C : String) (T : u_T) (N : Nat), jj_cl[c]? = some (C, T, N) ∧ j < N ∧ parseFieldDescriptor (T j).2.2.1 = some ty ∧
  (((T j).2.2.2 = false ∧ (Cond.fieldLink own idx (T j).1 (T j).2.1 (T j).2.2.1 ∈ jBG ∨ ∃ host, Cond.fieldLinkNest own idx (T j).1 (T j).2.1 (T j).2.2.1 host ∈ lw_tbl)) ∨ ((T j).2.2.2 = true ∧ name = "<init>" ∧ (T j).1 = own ∧ Cond.fieldLink own idx (T j).1 (T j).2.1 (T j).2.2.1 ∈ jBG))
def jPV (ty : FieldType) (v : AV) : Prop := ∀ g : GX, narrow ty (jcv g v) = jcv g v ∧ fits ty (jcv g v) = true
theorem jPV_int (x : Int32) : jPV .int (.inl x) := fun _ => ⟨rfl, rfl⟩
theorem jPV_long (x : Int64) : jPV .long (.inr (.inl x)) := fun _ => ⟨rfl, rfl⟩
theorem jPV_obj (C : String) (o : Option Nat) : jPV (.object C) (.inr (.inr (.inl o))) := fun _ => by cases o <;> exact ⟨rfl, rfl⟩
theorem jPV_arr (t : FieldType) (o : Option Nat) : jPV (.array t) (.inr (.inr (.inl o))) := fun _ => by cases o <;> exact ⟨rfl, rfl⟩
theorem jPV_z0 : jPV .boolean (.inl 0) := fun _ => ⟨by simp only [jcv]; decide, by simp only [jcv]; decide⟩
theorem jPV_z1 : jPV .boolean (.inl 1) := fun _ => ⟨by simp only [jcv]; decide, by simp only [jcv]; decide⟩
theorem jPV_z {x : Int32} (h : x = 0 ∨ x = 1) : jPV .boolean (.inl x) := by
  rcases h with rfl | rfl
  · exact jPV_z0
  · exact jPV_z1
section
variable {l : Launch} {g : GX} {md : MD} {R : Room} {Q : jQ} {pc : Nat} {ls : List (Nat × AV)} {st : List AV} {ah : AH} {cs : Nat × Nat}
theorem J_getf {o : Option Nat} {c j idx : Nat} {v : AV} (hd : decode md.2.1 pc = .ok (.getfield idx, 3)) (hs : jFL md.1.cls idx c j) (h : qf ah o c j = some v) (k : J l g md R Q (pc + 3) ls (v :: st) ah cs) : J l g md R Q pc ls (.inr (.inr (.inl o)) :: st) ah cs := by
  intro p e s m args below meth cd H locs la hC hz hP hS hl
  have kk := k p e s m args below meth cd H locs la hC hz hP hS hl
  obtain ⟨hx, hb, hr, hml, hown, hts, hlk, hnm, hK, hAm, hN⟩ := hC
  obtain ⟨a, fs, rfl, hc, hv⟩ := qf_spec h
  obtain ⟨C, T, N, e1, e2, e3⟩ := hs
  have hv' : (fs.map (jcv g))[j]? = some (jcv g v) := by rw [List.getElem?_map, hv]; rfl
  rcases e3 with e3 | ⟨host, e3⟩
  · exact va_get hx hb hts (jPt_all e1).1 hown hK hP a (jw_get hc) e1 j e2 (hts _ e3) (fun _ h => h) hv' hd kk
  · exact va_getN hx hb hts (jPt_all e1).1 hown hK hP a (jw_get hc) e1 j e2 (va_Nw.use rfl (hAm.2.2.2.2.1 _ _ _ _ _ _ e3)) (fun _ h => h) hv' hd kk
theorem J_getI {o : Option Nat} {c j idx : Nat} {x : Int32} (hd : decode md.2.1 pc = .ok (.getfield idx, 3)) (hs : jFL md.1.cls idx c j) (h : gI ah o c j = some x) (k : J l g md R Q (pc + 3) ls (.inl x :: st) ah cs) : J l g md R Q pc ls (.inr (.inr (.inl o)) :: st) ah cs := J_getf hd hs (gI_spec h) k
theorem J_getL {o : Option Nat} {c j idx : Nat} {x : Int64} (hd : decode md.2.1 pc = .ok (.getfield idx, 3)) (hs : jFL md.1.cls idx c j) (h : gL ah o c j = some x) (k : J l g md R Q (pc + 3) ls (.inr (.inl x) :: st) ah cs) : J l g md R Q pc ls (.inr (.inr (.inl o)) :: st) ah cs := J_getf hd hs (gL_spec h) k
theorem J_getR {o x : Option Nat} {c j idx : Nat} (hd : decode md.2.1 pc = .ok (.getfield idx, 3)) (hs : jFL md.1.cls idx c j) (h : gR ah o c j = some x) (k : J l g md R Q (pc + 3) ls (.inr (.inr (.inl x)) :: st) ah cs) : J l g md R Q pc ls (.inr (.inr (.inl o)) :: st) ah cs := J_getf hd hs (gR_spec h) k
theorem J_put {o : Option Nat} {c j idx : Nat} {v : AV} {ty : FieldType} {ah' : AH} (hd : decode md.2.1 pc = .ok (.putfield idx, 3)) (hs : jFP md.1.cls md.1.name idx c j ty) (hv : jPV ty v) (h : sF ah o c j v = some ah') (k : J l g md R Q (pc + 3) ls st ah' cs) : J l g md R Q pc ls (v :: .inr (.inr (.inl o)) :: st) ah cs := by
  intro p e s m args below meth cd H locs la hC hz hP hS hl
  have hC0 := hC
  obtain ⟨hx, hb, hr, hml, hown, hts, hlk, hnm, hK, hAm, hN⟩ := hC
  obtain ⟨a, fs, rfl, hc, hj, rfl⟩ := sF_spec h
  obtain ⟨C, T, N, e1, e2, e3, e4⟩ := hs
  obtain ⟨q1, ty0, q2, q3⟩ := jPt_all e1
  have hsz : ∀ (H1 : Heap) (locs1 : List Loc), va_P (jD g) jj_cl ((jw g ah).set a (jN g + a, .inr (c, (fs.map (jcv g)).set j (jcv g v)))) H1 → va_D (jA g) ((jw g ah).set a (jN g + a, .inr (c, (fs.map (jcv g)).set j (jcv g v)))) → va_S (jA g) s.heap H1 locs1 → W p l e R s m args below meth cd H1 locs1 cs.1 cs.2 (Q below args s) (F0 m (pc + 3) la (st.map (jcv g))) := by
    intro H1 locs1 hP1 _ hS1
    refine k p e s m args below meth cd H1 locs1 la hC0 (by rw [hz, List.length_set]) ?_ hS1 hl
    rw [jw_set, jce_setF]
    exact hP1
  have hj' : j < (fs.map (jcv g)).length := by rw [List.length_map]; exact hj
  rcases e4 with ⟨f1, f2⟩ | ⟨f1, f2, f3, f4⟩
  · rcases f2 with f2 | ⟨host, f2⟩
    · exact va_put hx hb hts q1 ty0 q2 q3 hown hK hP (jw_D g ah) hS a (jw_get hc) e1 j e2 (hts _ f2) (fun _ h => h) f1 e3 (hv g).1 (hv g).2 hj' hd hsz
    · exact va_putN hx hb hts q1 ty0 q2 q3 hown hK hP (jw_D g ah) hS a (jw_get hc) e1 j e2 (va_Nw.use rfl (hAm.2.2.2.2.1 _ _ _ _ _ _ f2)) (fun _ h => h) f1 e3 (hv g).1 (hv g).2 hj' hd hsz
  · exact va_putF hx hb hts q1 ty0 q2 q3 hown hK hP (jw_D g ah) hS a (jw_get hc) e1 j e2 (hts _ f4) (fun _ h => h) f1 (hnm.trans f2) f3 e3 (hv g).1 (hv g).2 hj' hd hsz
theorem J_iald {o : Option Nat} {i x : Int32} (hd : decode md.2.1 pc = .ok (.iaload, 1)) (h : gA ah o i = some x) (k : J l g md R Q (pc + 1) ls (.inl x :: st) ah cs) : J l g md R Q pc ls (.inl i :: .inr (.inr (.inl o)) :: st) ah cs := by
  intro p e s m args below meth cd H locs la hC hz hP hS hl
  have kk := k p e s m args below meth cd H locs la hC hz hP hS hl
  obtain ⟨hx, hb, hr, hml, hown, hts, hlk, hnm, hK, hAm, hN⟩ := hC
  obtain ⟨a, xs, rfl, hc, hi, rfl⟩ := gA_spec h
  exact va_iald hx hb hK hP a 0 (jw_get hc) rfl hi hd kk
theorem J_iast {o : Option Nat} {i x : Int32} {ah' : AH} (hd : decode md.2.1 pc = .ok (.iastore, 1)) (h : sA ah o i x = some ah') (k : J l g md R Q (pc + 1) ls st ah' cs) : J l g md R Q pc ls (.inl x :: .inl i :: .inr (.inr (.inl o)) :: st) ah cs := by
  intro p e s m args below meth cd H locs la hC hz hP hS hl
  have hC0 := hC
  obtain ⟨hx, hb, hr, hml, hown, hts, hlk, hnm, hK, hAm, hN⟩ := hC
  obtain ⟨a, xs, rfl, hc, hi, rfl⟩ := sA_spec h
  refine va_iast hx hb hK hP (jw_D g ah) hS a 0 (jw_get hc) rfl hi hd fun H1 locs1 hP1 _ hS1 => ?_
  refine k p e s m args below meth cd H1 locs1 la hC0 (by rw [hz, List.length_set]) ?_ hS1 hl
  rw [jw_set, jce_set g xs _ x (Nat.not_le.mp fun q => hi (Or.inr q))]
  exact hP1
theorem J_alen {o : Option Nat} {x : Int32} (hd : decode md.2.1 pc = .ok (.arraylength, 1)) (h : lA ah o = some x) (k : J l g md R Q (pc + 1) ls (.inl x :: st) ah cs) : J l g md R Q pc ls (.inr (.inr (.inl o)) :: st) ah cs := by
  intro p e s m args below meth cd H locs la hC hz hP hS hl
  have kk := k p e s m args below meth cd H locs la hC hz hP hS hl
  obtain ⟨hx, hb, hr, hml, hown, hts, hlk, hnm, hK, hAm, hN⟩ := hC
  unfold lA at h
  split at h
  · cases h
  · rename_i a
    split at h
    · rename_i xs hc
      cases h
      exact va_alen hx hb hK hP a 0 (jw_get hc) (ty := .int) rfl rfl hd kk
    · rename_i t rs hc
      cases h
      by_cases ht : t = 0
      · subst ht
        exact va_alen hx hb hK hP a 1 (jw_get hc) (ty := .object "EnemyByLot$Line") rfl rfl hd kk
      · refine va_alen hx hb hK hP a 2 (jw_get hc) (ty := .object "EnemyByLot$Town") ?_ rfl hd kk
        show some ((jC g).2.2, _) = _
        rw [if_neg ht]
    · cases h
theorem J_aald {o x : Option Nat} {i : Int32} (hd : decode md.2.1 pc = .ok (.aaload, 1)) (h : gE ah o i = some x) (k : J l g md R Q (pc + 1) ls (.inr (.inr (.inl x)) :: st) ah cs) : J l g md R Q pc ls (.inl i :: .inr (.inr (.inl o)) :: st) ah cs := by
  intro p e s m args below meth cd H locs la hC hz hP hS hl
  have kk := k p e s m args below meth cd H locs la hC hz hP hS hl
  obtain ⟨hx, hb, hr, hml, hown, hts, hlk, hnm, hK, hAm, hN⟩ := hC
  unfold gE at h
  split at h
  · cases h
  · rename_i a
    split at h
    · rename_i t rs hc
      split at h
      · cases h
      · rename_i hi
        have h1 := (List.getElem?_eq_some_iff.mp h).1
        have hin : vp_in i rs.length := fun q => by
          rcases q with q | q
          · exact hi q
          · omega
        have hv : va_rf ((rs.getD i.toNatClampNeg none).map (fun k => jN g + k)) = jcv g (.inr (.inr (.inl x))) := by
          rw [List.getD_eq_getElem?_getD, h]
          cases x <;> rfl
        by_cases ht : t = 0
        · subst ht
          refine va_aldq (C := "EnemyByLot$Line") hx hb hK hP a 1 (jw_get hc) rfl hin hd ?_
          rw [hv]
          exact kk
        · refine va_aldq (C := "EnemyByLot$Town") hx hb hK hP a 2 (jw_get hc) ?_ hin hd ?_
          · show some ((jC g).2.2, _) = _
            rw [if_neg ht]
          · rw [hv]
            exact kk
    · cases h
theorem jce_setE (g : GX) (t : Nat) (rs : List (Option Nat)) (i k : Nat) (h : i < rs.length) : jce g (.inr (.inl (t, rs.set i (some k)))) = .inl (if t = 0 then (jC g).2.1 else (jC g).2.2, rs.length, .inr (.inr (.inr (.inr (va_up (fun j => (rs.getD j none).map (fun k => jN g + k)) i (some (jN g + k))))))) := by
  have e : (fun j => ((rs.set i (some k)).getD j none).map (fun k => jN g + k)) = va_up (fun j => (rs.getD j none).map (fun k => jN g + k)) i (some (jN g + k)) := by
    funext j
    simp only [List.getD_eq_getElem?_getD, List.getElem?_set, va_up]
    by_cases hj : i = j
    · subst hj
      simp [h]
    · simp [hj, Ne.symm hj]
  simp only [jce, List.length_set]
  rw [e]
theorem J_aast {o v : Option Nat} {i : Int32} {ah' : AH} (hd : decode md.2.1 pc = .ok (.aastore, 1)) (h : sE ah o i v = some ah') (k : J l g md R Q (pc + 1) ls st ah' cs) : J l g md R Q pc ls (.inr (.inr (.inl v)) :: .inl i :: .inr (.inr (.inl o)) :: st) ah cs := by
  intro p e s m args below meth cd H locs la hC hz hP hS hl
  have hC0 := hC
  obtain ⟨hx, hb, hr, hml, hown, hts, hlk, hnm, hK, hAm, hN⟩ := hC
  unfold sE at h
  split at h
  · rename_i a a2
    split at h
    · rename_i t rs ci fs hc hc2
      split at h
      · rename_i hq
        obtain ⟨⟨q1, q2⟩, q3⟩ := hq
        cases h
        have hin : vp_in i rs.length := fun q => by
          rcases q with q | q
          · exact q1 q
          · omega
        have fin : ∀ (H1 : Heap) (locs1 : List Loc), va_P (jD g) jj_cl ((jw g ah).set a (jN g + a, .inl (if t = 0 then (jC g).2.1 else (jC g).2.2, rs.length, .inr (.inr (.inr (.inr (va_up (fun j => (rs.getD j none).map (fun k => jN g + k)) i.toNatClampNeg (some (jN g + a2))))))))) H1 → va_D (jA g) ((jw g ah).set a (jN g + a, .inl (if t = 0 then (jC g).2.1 else (jC g).2.2, rs.length, .inr (.inr (.inr (.inr (va_up (fun j => (rs.getD j none).map (fun k => jN g + k)) i.toNatClampNeg (some (jN g + a2))))))))) → va_S (jA g) s.heap H1 locs1 → W p l e R s m args below meth cd H1 locs1 cs.1 cs.2 (Q below args s) (F0 m (pc + 1) la (st.map (jcv g))) := by
          intro H1 locs1 hP1 _ hS1
          refine k p e s m args below meth cd H1 locs1 la hC0 (by rw [hz, List.length_set]) ?_ hS1 hl
          rw [jw_set, jce_setE g t rs _ a2 q2]
          exact hP1
        rcases q3 with ⟨rfl, rfl⟩ | ⟨rfl, rfl⟩
        · exact va_astq hx hb hK hP (jw_D g ah) hS a 1 a2 2 (r := (RX2, TX2, 2)) (jw_get hc) rfl (jw_get hc2) rfl hin hd fin
        · exact va_astq hx hb hK hP (jw_D g ah) hS a 2 a2 4 (r := (RX4, TX4, 5)) (jw_get hc) rfl (jw_get hc2) rfl hin hd fin
      · cases h
    · cases h
  · cases h
theorem J_gets {idx : Nat} {host : String} (hd : decode md.2.1 pc = .ok (.getstatic idx, 3)) (hs : Cond.fieldLinkNest md.1.cls idx "EnemyByLot" "LETTERS" "[I" host ∈ lw_tbl) (k : J l g md R Q (pc + 3) ls (.inr (.inr (.inr true)) :: st) ah cs) : J l g md R Q pc ls st ah cs := by
  intro p e s m args below meth cd H locs la hC hz hP hS hl
  have kk := k p e s m args below meth cd H locs la hC hz hP hS hl
  obtain ⟨hx, hb, hr, hml, hown, hts, hlk, hnm, hK, hAm, hN⟩ := hC
  exact va_getsN hx hb hAm.2.2.1 hS hown (va_Nw.use rfl (hAm.2.2.2.2.1 _ _ _ _ _ _ hs)) (fun _ h => h) hd kk
theorem J_tlen (hd : decode md.2.1 pc = .ok (.arraylength, 1)) (k : J l g md R Q (pc + 1) ls (.inl 6 :: st) ah cs) : J l g md R Q pc ls (.inr (.inr (.inr true)) :: st) ah cs := by
  intro p e s m args below meth cd H locs la hC hz hP hS hl
  have kk := k p e s m args below meth cd H locs la hC hz hP hS hl
  obtain ⟨hx, hb, hr, hml, hown, hts, hlk, hnm, hK, hAm, hN⟩ := hC
  exact va_tlen hx hb hAm.2.2.2.1 hS rfl hd kk
theorem J_tget {i x : Int32} (hd : decode md.2.1 pc = .ok (.iaload, 1)) (h : gT i = some x) (k : J l g md R Q (pc + 1) ls (.inl x :: st) ah cs) : J l g md R Q pc ls (.inl i :: .inr (.inr (.inr true)) :: st) ah cs := by
  intro p e s m args below meth cd H locs la hC hz hP hS hl
  have kk := k p e s m args below meth cd H locs la hC hz hP hS hl
  obtain ⟨hx, hb, hr, hml, hown, hts, hlk, hnm, hK, hAm, hN⟩ := hC
  unfold gT at h
  split at h
  · rename_i hq
    cases h
    refine va_ti hx hb hAm.2.2.2.1 hS (fun q => ?_) rfl hd kk
    rcases q with q | q
    · exact hq.1 q
    · have := hq.2
      omega
  · cases h
theorem J_slen (hd : decode md.2.1 pc = .ok (.arraylength, 1)) (k : J l g md R Q (pc + 1) ls (.inl (Int32.ofNat (jL g)) :: st) ah cs) : J l g md R Q pc ls (.inr (.inr (.inr false)) :: st) ah cs := by
  intro p e s m args below meth cd H locs la hC hz hP hS hl
  have kk := k p e s m args below meth cd H locs la hC hz hP hS hl
  obtain ⟨hx, hb, hr, hml, hown, hts, hlk, hnm, hK, hAm, hN⟩ := hC
  have h1 := hAm.2.1
  exact va_slen hx hb hAm.1 (by omega) (fun q => by have : jN g ≤ jb g := q; omega) hS hd kk
theorem J_sget {i x : Int32} (hd : decode md.2.1 pc = .ok (.iaload, 1)) (h : gS g i = some x) (k : J l g md R Q (pc + 1) ls (.inl x :: st) ah cs) : J l g md R Q pc ls (.inl i :: .inr (.inr (.inr false)) :: st) ah cs := by
  intro p e s m args below meth cd H locs la hC hz hP hS hl
  have kk := k p e s m args below meth cd H locs la hC hz hP hS hl
  obtain ⟨hx, hb, hr, hml, hown, hts, hlk, hnm, hK, hAm, hN⟩ := hC
  have h1 := hAm.2.1
  unfold gS at h
  split at h
  · rename_i hq
    cases h
    refine va_sld hx hb hAm.1 (by omega) (fun q => by have : jN g ≤ jb g := q; omega) hS (fun q => ?_) hd kk
    rcases q with q | q
    · exact hq.1 q
    · have := hq.2
      omega
  · cases h
end
end
section
/-! ===== branches, division, constants, making, calls, returns ===== -/
section
variable {l : Launch} {g : GX} {md : MD} {R : Room} {Q : jQ} {pc : Nat} {ls : List (Nat × AV)} {st : List AV} {ah : AH} {cs : Nat × Nat}
theorem J_eq0 {x : Int32} {off : Int} {tgt : Nat} (hd : decode md.2.1 pc = .ok (.ifCond .eq off, 3)) (ht : (pc : Int) + off = (tgt : Int)) (kt : x = 0 → J l g md R Q tgt ls st ah cs) (kf : ¬ x = 0 → J l g md R Q (pc + 3) ls st ah cs) : J l g md R Q pc ls (.inl x :: st) ah cs := fun p e s m args below meth cd H locs la hC hz hP hS hl =>
  lv_if_eq hC.1 hC.2.1 hd ht (fun c => kt c p e s m args below meth cd H locs la hC hz hP hS hl) (fun c => kf c p e s m args below meth cd H locs la hC hz hP hS hl)
theorem J_ne0 {x : Int32} {off : Int} {tgt : Nat} (hd : decode md.2.1 pc = .ok (.ifCond .ne off, 3)) (ht : (pc : Int) + off = (tgt : Int)) (kt : ¬ x = 0 → J l g md R Q tgt ls st ah cs) (kf : x = 0 → J l g md R Q (pc + 3) ls st ah cs) : J l g md R Q pc ls (.inl x :: st) ah cs := fun p e s m args below meth cd H locs la hC hz hP hS hl =>
  lv_if_ne hC.1 hC.2.1 hd ht (fun c => kt c p e s m args below meth cd H locs la hC hz hP hS hl) (fun c => kf c p e s m args below meth cd H locs la hC hz hP hS hl)
theorem J_lt0 {x : Int32} {off : Int} {tgt : Nat} (hd : decode md.2.1 pc = .ok (.ifCond .lt off, 3)) (ht : (pc : Int) + off = (tgt : Int)) (kt : x < 0 → J l g md R Q tgt ls st ah cs) (kf : ¬ x < 0 → J l g md R Q (pc + 3) ls st ah cs) : J l g md R Q pc ls (.inl x :: st) ah cs := fun p e s m args below meth cd H locs la hC hz hP hS hl =>
  lv_if_lt hC.1 hC.2.1 hd ht (fun c => kt c p e s m args below meth cd H locs la hC hz hP hS hl) (fun c => kf c p e s m args below meth cd H locs la hC hz hP hS hl)
theorem J_ge0 {x : Int32} {off : Int} {tgt : Nat} (hd : decode md.2.1 pc = .ok (.ifCond .ge off, 3)) (ht : (pc : Int) + off = (tgt : Int)) (kt : 0 ≤ x → J l g md R Q tgt ls st ah cs) (kf : ¬ 0 ≤ x → J l g md R Q (pc + 3) ls st ah cs) : J l g md R Q pc ls (.inl x :: st) ah cs := fun p e s m args below meth cd H locs la hC hz hP hS hl =>
  lv_if_ge hC.1 hC.2.1 hd ht (fun c => kt c p e s m args below meth cd H locs la hC hz hP hS hl) (fun c => kf c p e s m args below meth cd H locs la hC hz hP hS hl)
theorem J_gt0 {x : Int32} {off : Int} {tgt : Nat} (hd : decode md.2.1 pc = .ok (.ifCond .gt off, 3)) (ht : (pc : Int) + off = (tgt : Int)) (kt : 0 < x → J l g md R Q tgt ls st ah cs) (kf : ¬ 0 < x → J l g md R Q (pc + 3) ls st ah cs) : J l g md R Q pc ls (.inl x :: st) ah cs := fun p e s m args below meth cd H locs la hC hz hP hS hl =>
  lv_if_gt hC.1 hC.2.1 hd ht (fun c => kt c p e s m args below meth cd H locs la hC hz hP hS hl) (fun c => kf c p e s m args below meth cd H locs la hC hz hP hS hl)
theorem J_le0 {x : Int32} {off : Int} {tgt : Nat} (hd : decode md.2.1 pc = .ok (.ifCond .le off, 3)) (ht : (pc : Int) + off = (tgt : Int)) (kt : x ≤ 0 → J l g md R Q tgt ls st ah cs) (kf : ¬ x ≤ 0 → J l g md R Q (pc + 3) ls st ah cs) : J l g md R Q pc ls (.inl x :: st) ah cs := fun p e s m args below meth cd H locs la hC hz hP hS hl =>
  lv_if_le hC.1 hC.2.1 hd ht (fun c => kt c p e s m args below meth cd H locs la hC hz hP hS hl) (fun c => kf c p e s m args below meth cd H locs la hC hz hP hS hl)
theorem J_eq {x y : Int32} {off : Int} {tgt : Nat} (hd : decode md.2.1 pc = .ok (.if_icmp .eq off, 3)) (ht : (pc : Int) + off = (tgt : Int)) (kt : x = y → J l g md R Q tgt ls st ah cs) (kf : ¬ x = y → J l g md R Q (pc + 3) ls st ah cs) : J l g md R Q pc ls (.inl y :: .inl x :: st) ah cs := fun p e s m args below meth cd H locs la hC hz hP hS hl =>
  lv_icmp_eq hC.1 hC.2.1 hd ht (fun c => kt c p e s m args below meth cd H locs la hC hz hP hS hl) (fun c => kf c p e s m args below meth cd H locs la hC hz hP hS hl)
theorem J_ne {x y : Int32} {off : Int} {tgt : Nat} (hd : decode md.2.1 pc = .ok (.if_icmp .ne off, 3)) (ht : (pc : Int) + off = (tgt : Int)) (kt : ¬ x = y → J l g md R Q tgt ls st ah cs) (kf : x = y → J l g md R Q (pc + 3) ls st ah cs) : J l g md R Q pc ls (.inl y :: .inl x :: st) ah cs := fun p e s m args below meth cd H locs la hC hz hP hS hl =>
  lv_icmp_ne hC.1 hC.2.1 hd ht (fun c => kt c p e s m args below meth cd H locs la hC hz hP hS hl) (fun c => kf c p e s m args below meth cd H locs la hC hz hP hS hl)
theorem J_lt {x y : Int32} {off : Int} {tgt : Nat} (hd : decode md.2.1 pc = .ok (.if_icmp .lt off, 3)) (ht : (pc : Int) + off = (tgt : Int)) (kt : x < y → J l g md R Q tgt ls st ah cs) (kf : ¬ x < y → J l g md R Q (pc + 3) ls st ah cs) : J l g md R Q pc ls (.inl y :: .inl x :: st) ah cs := fun p e s m args below meth cd H locs la hC hz hP hS hl =>
  lv_icmp_lt hC.1 hC.2.1 hd ht (fun c => kt c p e s m args below meth cd H locs la hC hz hP hS hl) (fun c => kf c p e s m args below meth cd H locs la hC hz hP hS hl)
theorem J_ge {x y : Int32} {off : Int} {tgt : Nat} (hd : decode md.2.1 pc = .ok (.if_icmp .ge off, 3)) (ht : (pc : Int) + off = (tgt : Int)) (kt : y ≤ x → J l g md R Q tgt ls st ah cs) (kf : ¬ y ≤ x → J l g md R Q (pc + 3) ls st ah cs) : J l g md R Q pc ls (.inl y :: .inl x :: st) ah cs := fun p e s m args below meth cd H locs la hC hz hP hS hl =>
  lv_icmp_ge hC.1 hC.2.1 hd ht (fun c => kt c p e s m args below meth cd H locs la hC hz hP hS hl) (fun c => kf c p e s m args below meth cd H locs la hC hz hP hS hl)
theorem J_gt {x y : Int32} {off : Int} {tgt : Nat} (hd : decode md.2.1 pc = .ok (.if_icmp .gt off, 3)) (ht : (pc : Int) + off = (tgt : Int)) (kt : y < x → J l g md R Q tgt ls st ah cs) (kf : ¬ y < x → J l g md R Q (pc + 3) ls st ah cs) : J l g md R Q pc ls (.inl y :: .inl x :: st) ah cs := fun p e s m args below meth cd H locs la hC hz hP hS hl =>
  lv_icmp_gt hC.1 hC.2.1 hd ht (fun c => kt c p e s m args below meth cd H locs la hC hz hP hS hl) (fun c => kf c p e s m args below meth cd H locs la hC hz hP hS hl)
theorem J_le {x y : Int32} {off : Int} {tgt : Nat} (hd : decode md.2.1 pc = .ok (.if_icmp .le off, 3)) (ht : (pc : Int) + off = (tgt : Int)) (kt : x ≤ y → J l g md R Q tgt ls st ah cs) (kf : ¬ x ≤ y → J l g md R Q (pc + 3) ls st ah cs) : J l g md R Q pc ls (.inl y :: .inl x :: st) ah cs := fun p e s m args below meth cd H locs la hC hz hP hS hl =>
  lv_icmp_le hC.1 hC.2.1 hd ht (fun c => kt c p e s m args below meth cd H locs la hC hz hP hS hl) (fun c => kf c p e s m args below meth cd H locs la hC hz hP hS hl)
theorem J_null {o : Option Nat} {off : Int} {tgt : Nat} (hd : decode md.2.1 pc = .ok (.ifnull off, 3)) (ht : (pc : Int) + off = (tgt : Int)) (kt : o = none → J l g md R Q tgt ls st ah cs) (kf : ¬ o = none → J l g md R Q (pc + 3) ls st ah cs) : J l g md R Q pc ls (.inr (.inr (.inl o)) :: st) ah cs := by
  intro p e s m args below meth cd H locs la hC hz hP hS hl
  cases o with
  | none => exact lv_ifnullN hC.1 hC.2.1 hd ht (kt rfl p e s m args below meth cd H locs la hC hz hP hS hl)
  | some a => exact lv_ifnull hC.1 hC.2.1 hd (kf (by simp) p e s m args below meth cd H locs la hC hz hP hS hl)
theorem J_nonnull {o : Option Nat} {off : Int} {tgt : Nat} (hd : decode md.2.1 pc = .ok (.ifnonnull off, 3)) (ht : (pc : Int) + off = (tgt : Int)) (kt : ¬ o = none → J l g md R Q tgt ls st ah cs) (kf : o = none → J l g md R Q (pc + 3) ls st ah cs) : J l g md R Q pc ls (.inr (.inr (.inl o)) :: st) ah cs := by
  intro p e s m args below meth cd H locs la hC hz hP hS hl
  cases o with
  | none => exact lv_ifnonnullN hC.1 hC.2.1 hd (kf rfl p e s m args below meth cd H locs la hC hz hP hS hl)
  | some a => exact lv_ifnonnull hC.1 hC.2.1 hd ht (kt (by simp) p e s m args below meth cd H locs la hC hz hP hS hl)
theorem J_tabIn {dflt lo hi : Int} {offs : Array Int} {len : Nat} {x : Int32} {off : Int} {tgt : Nat} (hd : decode md.2.1 pc = .ok (.tableswitch dflt lo hi offs, len)) (h1 : ¬ x.toInt < lo) (h2 : ¬ hi < x.toInt) (ho : offs[(x.toInt - lo).toNat]? = some off) (ht : (pc : Int) + off = (tgt : Int)) (k : J l g md R Q tgt ls st ah cs) : J l g md R Q pc ls (.inl x :: st) ah cs := fun p e s m args below meth cd H locs la hC hz hP hS hl =>
  lv_tableIn hC.1 hC.2.1 hd h1 h2 ho ht (k p e s m args below meth cd H locs la hC hz hP hS hl)
theorem J_tabOut {dflt lo hi : Int} {offs : Array Int} {len : Nat} {x : Int32} {tgt : Nat} (hd : decode md.2.1 pc = .ok (.tableswitch dflt lo hi offs, len)) (h : x.toInt < lo ∨ hi < x.toInt) (ht : (pc : Int) + dflt = (tgt : Int)) (k : J l g md R Q tgt ls st ah cs) : J l g md R Q pc ls (.inl x :: st) ah cs := fun p e s m args below meth cd H locs la hC hz hP hS hl =>
  lv_tableOut hC.1 hC.2.1 hd h ht (k p e s m args below meth cd H locs la hC hz hP hS hl)
theorem J_idiv {x y : Int32} (hd : decode md.2.1 pc = .ok (.idiv, 1)) (hy : ¬ y = 0) (k : J l g md R Q (pc + 1) ls (.inl (x / y) :: st) ah cs) : J l g md R Q pc ls (.inl y :: .inl x :: st) ah cs := fun p e s m args below meth cd H locs la hC hz hP hS hl =>
  lv_idiv hC.1 hC.2.1 hd hy (k p e s m args below meth cd H locs la hC hz hP hS hl)
theorem J_irem {x y : Int32} (hd : decode md.2.1 pc = .ok (.irem, 1)) (hy : ¬ y = 0) (k : J l g md R Q (pc + 1) ls (.inl (x - x / y * y) :: st) ah cs) : J l g md R Q pc ls (.inl y :: .inl x :: st) ah cs := fun p e s m args below meth cd H locs la hC hz hP hS hl =>
  lv_irem hC.1 hC.2.1 hd hy (k p e s m args below meth cd H locs la hC hz hP hS hl)
theorem J_ldiv {x y : Int64} (hd : decode md.2.1 pc = .ok (.ldiv, 1)) (hy : ¬ y = 0) (k : J l g md R Q (pc + 1) ls (.inr (.inl (x / y)) :: st) ah cs) : J l g md R Q pc ls (.inr (.inl y) :: .inr (.inl x) :: st) ah cs := fun p e s m args below meth cd H locs la hC hz hP hS hl =>
  lv_ldiv hC.1 hC.2.1 hd hy (k p e s m args below meth cd H locs la hC hz hP hS hl)
theorem J_lrem {x y : Int64} (hd : decode md.2.1 pc = .ok (.lrem, 1)) (hy : ¬ y = 0) (k : J l g md R Q (pc + 1) ls (.inr (.inl (x - x / y * y)) :: st) ah cs) : J l g md R Q pc ls (.inr (.inl y) :: .inr (.inl x) :: st) ah cs := fun p e s m args below meth cd H locs la hC hz hP hS hl =>
  lv_lrem hC.1 hC.2.1 hd hy (k p e s m args below meth cd H locs la hC hz hP hS hl)
theorem J_ldc2 {idx : Nat} {v : Int64} (hd : decode md.2.1 pc = .ok (.ldc2_w idx, 3)) (hc : Cond.constantLong md.1.cls idx v ∈ jBG) (k : J l g md R Q (pc + 3) ls (.inr (.inl v) :: st) ah cs) : J l g md R Q pc ls st ah cs := fun p e s m args below meth cd H locs la hC hz hP hS hl =>
  lv_ldc2 hC.1 hC.2.1 hC.2.2.2.2.1 (hC.2.2.2.2.2.1 _ hc) hd (k p e s m args below meth cd H locs la hC hz hP hS hl)
theorem J_ldcw {idx : Nat} {v : Int32} (hd : decode md.2.1 pc = .ok (.ldc_w idx, 3)) (hc : Cond.constant md.1.cls idx v ∈ jBG) (k : J l g md R Q (pc + 3) ls (.inl v :: st) ah cs) : J l g md R Q pc ls st ah cs := fun p e s m args below meth cd H locs la hC hz hP hS hl =>
  lv_ldcw hC.1 hC.2.1 hC.2.2.2.2.1 (hC.2.2.2.2.2.1 _ hc) hd (k p e s m args below meth cd H locs la hC hz hP hS hl)
/-! making -/
theorem jnew_q {s : State} {H1 : Heap} {x : va_E} {q n : Nat} (hN : jN g ≤ s.heap.size) (hz : s.heap.size + n = jN g + ah.length) (hP1 : va_P (jD g) jj_cl (jw g ah ++ [(q, x)]) H1) (hD1 : va_D (jA g) (jw g ah ++ [(q, x)])) (hs : H1.size ≤ s.heap.size + (n + 1)) : q = jN g + ah.length := by
  have h1 : (jw g ah ++ [(q, x)])[ah.length]? = some (q, x) := by
    rw [List.getElem?_append_right (by rw [jw_len]; exact Nat.le_refl _), jw_len, Nat.sub_self]
    rfl
  have h2 : q < H1.size := (hP1 _ _ h1).lt
  have h3 : jN g ≤ q := hD1.2 _ _ h1
  rcases Nat.lt_or_ge q (jN g + ah.length) with h4 | h4
  · have h5 : q - jN g < (jw g ah).length := by rw [jw_len]; omega
    have h6 : (jw g ah)[q - jN g]? = some ((jw g ah)[q - jN g]) := List.getElem?_eq_getElem h5
    have h7 := (jw_inv h6).1
    have h8 : (jw g ah ++ [(q, x)])[q - jN g]? = some ((jw g ah)[q - jN g]) := by rw [List.getElem?_append_left h5]; exact h6
    have h9 := hD1.1 _ _ _ _ h8 h1 (by rw [h7]; show jN g + (q - jN g) = q; omega)
    omega
  · omega
theorem J_new {c idx N : Nat} {C : String} {T : u_T} {fs : List AV} {cs' : Nat × Nat} (hd : decode md.2.1 pc = .ok (.new idx, 3)) (hc : jj_cl[c]? = some (C, T, N)) (hw : Cond.classLink md.1.cls idx C ∈ jBG) (hi : Cond.instantiable C N ∈ jBG) (hn : Cond.initialized C ∈ jBG) (ty0 : Nat → FieldType) (hty : ∀ k, k < N → parseFieldDescriptor (T k).2.2.1 = some (ty0 k)) (hfs : ∀ j, j < N → ∀ g : GX, defaultValue (ty0 j) = vp_V (fs.map (jcv g)) j)
    (hcs : cs' = (cs.1 + 1, cs.2 + N)) (hr : cs.1 + 1 ≤ R.cells ∧ cs.2 + N ≤ R.slots) (k : J l g md R Q (pc + 3) ls (.inr (.inr (.inl (some ah.length))) :: st) (ah ++ [.inr (.inr (c, fs))]) cs') : J l g md R Q pc ls st ah cs := by
  intro p e s m args below meth cd H locs la hC hz hP hS hl
  have hC0 := hC
  obtain ⟨hx, hb, hr0, hml, hown, hts, hlk, hnm, hK, hAm, hN⟩ := hC
  subst hcs
  refine va_new (ci := c) (fs := fs.map (jcv g)) hx hb hts (jPt_all hc).1 ty0 hty hown (hts _ hw) (hts _ hi) (hts _ hn) hK hP (jw_D g ah) hS (fun q h => Nat.le_trans hN h) hc (fun j hj => hfs j hj g) hr.1 hr.2 hd (fun q H1 hP1 hD1 hS1 => ?_)
  intro T1 hT1 X1
  have hq : q = jN g + ah.length := jnew_q hN hz hP1 hD1 (by rw [← hT1]; exact X1.heapSize)
  subst hq
  refine k p e s m args below meth cd H1 locs la hC0 ?_ ?_ hS1 hl T1 hT1 X1
  · simp only [List.length_append, List.length_singleton]
    omega
  · rw [jw_app]
    exact hP1
theorem J_newA {n : Int32} {cs' : Nat × Nat} (hd : decode md.2.1 pc = .ok (.newarray .int, 2)) (hn : ¬ n < 0) (hb2 : n.toNatClampNeg ≤ 100000) (hw : Cond.arrayClass .int ∈ jBG) (hcs : cs' = (cs.1 + 1, cs.2 + n.toNatClampNeg)) (hr : cs.1 + 1 ≤ R.cells ∧ cs.2 + n.toNatClampNeg ≤ R.slots)
    (k : J l g md R Q (pc + 2) ls (.inr (.inr (.inl (some ah.length))) :: st) (ah ++ [.inl (List.replicate n.toNatClampNeg 0)]) cs') : J l g md R Q pc ls (.inl n :: st) ah cs := by
  intro p e s m args below meth cd H locs la hC hz hP hS hl
  have hC0 := hC
  obtain ⟨hx, hb, hr0, hml, hown, hts, hlk, hnm, hK, hAm, hN⟩ := hC
  subst hcs
  refine va_newa (a0 := (n.toNatClampNeg, .inl (fun _ => 0))) (atype := .int) (ty := .int) hx hb (hts _ hw) rfl hK hP (jw_D g ah) hS (fun q h => Nat.le_trans hN h) (fun cA => rfl) hn rfl (by show n.toNatClampNeg * 4 ≤ _; omega) hr.1 hr.2 hd (fun q cA H1 hK1 hP1 hD1 hS1 => ?_)
  intro T1 hT1 X1
  have hq : q = jN g + ah.length := jnew_q hN hz hP1 hD1 (by rw [← hT1]; exact X1.heapSize)
  subst hq
  have hcA : cA = (jC g).1 := by
    have h1 : s.vm.findClass ("[" ++ (FieldType.int).toString) = some cA := (hK1.2 3 (cA, .int) rfl).2
    have h2 : s.vm.findClass ("[" ++ (FieldType.int).toString) = some (jC g).1 := (hK.2 0 ((jC g).1, .int) rfl).2
    rw [h1] at h2
    exact Option.some.inj h2
  subst hcA
  refine k p e s m args below meth cd H1 locs la hC0 ?_ ?_ hS1 hl T1 hT1 X1
  · simp only [List.length_append, List.length_singleton]
    omega
  · rw [jw_app]
    have e1 : jce g (.inl (List.replicate n.toNatClampNeg 0)) = .inl ((jC g).1, n.toNatClampNeg, .inl (fun _ => 0)) := by
      have e2 : (fun j => (List.replicate n.toNatClampNeg (0 : Int32)).getD j 0) = fun _ => 0 := by
        funext j
        rw [List.getD_eq_getElem?_getD, List.getElem?_replicate]
        split <;> rfl
      simp only [jce, List.length_replicate]
      rw [e2]
    rw [e1]
    exact hP1
/-- the classes of which there are arrays -/
def jEl (t : Nat) : String := if t = 0 then "EnemyByLot$Line" else "EnemyByLot$Town"
theorem J_newE {n : Int32} {t idx : Nat} {cs' : Nat × Nat} (hd : decode md.2.1 pc = .ok (.anewarray idx, 3)) (hn : ¬ n < 0) (hb2 : n.toNatClampNeg ≤ 100000) (hw : Cond.classLink md.1.cls idx (jEl t) ∈ jBG) (hcs : cs' = (cs.1 + 1, cs.2 + n.toNatClampNeg)) (hr : cs.1 + 1 ≤ R.cells ∧ cs.2 + n.toNatClampNeg ≤ R.slots)
    (k : J l g md R Q (pc + 3) ls (.inr (.inr (.inl (some ah.length))) :: st) (ah ++ [.inr (.inl (t, List.replicate n.toNatClampNeg none))]) cs') : J l g md R Q pc ls (.inl n :: st) ah cs := by
  intro p e s m args below meth cd H locs la hC hz hP hS hl
  have hC0 := hC
  obtain ⟨hx, hb, hr0, hml, hown, hts, hlk, hnm, hK, hAm, hN⟩ := hC
  subst hcs
  have hAO : va_AO (jEl t) s := by
    unfold jEl
    split
    · exact hAm.2.2.2.2.2.2.1
    · exact hAm.2.2.2.2.2.2.2
  refine va_newq hx hb hown (hts _ hw) hAO hK hP (jw_D g ah) hS (fun q h => Nat.le_trans hN h) hn rfl (by omega) hr.1 hr.2 hd (fun q cA H1 hK1 hP1 hD1 hS1 => ?_)
  intro T1 hT1 X1
  have hq : q = jN g + ah.length := jnew_q hN hz hP1 hD1 (by rw [← hT1]; exact X1.heapSize)
  subst hq
  have hcA : cA = if t = 0 then (jC g).2.1 else (jC g).2.2 := by
    obtain ⟨_, _, _, _, _, h1⟩ := (hK1.2 3 (cA, .object (jEl t)) rfl).2
    by_cases ht : t = 0
    · subst ht
      obtain ⟨_, _, _, _, _, h2⟩ := (hK.2 1 ((jC g).2.1, .object "EnemyByLot$Line") rfl).2
      exact Option.some.inj (h1.symm.trans h2)
    · have e2 : jEl t = "EnemyByLot$Town" := if_neg ht
      rw [e2] at h1
      obtain ⟨_, _, _, _, _, h2⟩ := (hK.2 2 ((jC g).2.2, .object "EnemyByLot$Town") rfl).2
      rw [if_neg ht]
      exact Option.some.inj (h1.symm.trans h2)
  subst hcA
  refine k p e s m args below meth cd H1 locs la hC0 ?_ ?_ hS1 hl T1 hT1 X1
  · simp only [List.length_append, List.length_singleton]
    omega
  · rw [jw_app]
    have e1 : jce g (.inr (.inl (t, List.replicate n.toNatClampNeg none))) = .inl (if t = 0 then (jC g).2.1 else (jC g).2.2, n.toNatClampNeg, .inr (.inr (.inr (.inr (fun _ => none))))) := by
      have e2 : (fun j => ((List.replicate n.toNatClampNeg (none : Option Nat)).getD j none).map (fun k => jN g + k)) = fun _ => none := by
        funext j
        rw [List.getD_eq_getElem?_getD, List.getElem?_replicate]
        split <;> rfl
      simp only [jce, List.length_replicate]
      rw [e2]
    rw [e1]
    exact hP1
/-! returns -/
theorem J_reti {x : Int32} {r : Option AV} {ah' : AH} {ty : FieldType} (hd : decode md.2.1 pc = .ok (.ireturn, 1)) (hr : md.2.2.2.1 = some ty) (hv : jPV ty (.inl x)) (h1 : cs.1 = md.2.2.2.2.1) (h2 : cs.2 ≤ md.2.2.2.2.2) (e1 : r = some (.inl x)) (e2 : ah' = ah) : J l g md R (jQm g md r ah') pc ls [.inl x] ah cs := by
  subst e1; subst e2
  intro p e s m args below meth cd H locs la hC hz hP hS hl
  obtain ⟨hx, hb, hr0, hml, hown, hts, hlk, hnm, hK, hAm, hN⟩ := hC
  refine W.widen (k := md.2.2.2.2.1) (n := md.2.2.2.2.2) (by omega) h2 ?_
  exact W.zret hx hb (hr0.trans hr) (hv g).1 (fun t ht hW => ⟨rfl, ⟨by rw [ht]; exact hP, va_K.moved hW.alike hK⟩, hS.F ht, by omega⟩) (fun q hq => hS.2.2 q hq) hd
theorem J_retl {x : Int64} {r : Option AV} {ah' : AH} (hd : decode md.2.1 pc = .ok (.lreturn, 1)) (hr : md.2.2.2.1 = some .long) (h1 : cs.1 = md.2.2.2.2.1) (h2 : cs.2 ≤ md.2.2.2.2.2) (e1 : r = some (.inr (.inl x))) (e2 : ah' = ah) : J l g md R (jQm g md r ah') pc ls [.inr (.inl x)] ah cs := by
  subst e1; subst e2
  intro p e s m args below meth cd H locs la hC hz hP hS hl
  obtain ⟨hx, hb, hr0, hml, hown, hts, hlk, hnm, hK, hAm, hN⟩ := hC
  refine W.widen (k := md.2.2.2.2.1) (n := md.2.2.2.2.2) (by omega) h2 ?_
  exact W.lret hx hb (hr0.trans hr) (fun t ht hW => ⟨rfl, ⟨by rw [ht]; exact hP, va_K.moved hW.alike hK⟩, hS.F ht, by omega⟩) (fun q hq => hS.2.2 q hq) hd
theorem J_reta {x : Option Nat} {r : Option AV} {ah' : AH} {C : String} (hd : decode md.2.1 pc = .ok (.areturn, 1)) (hr : md.2.2.2.1 = some (.object C)) (h1 : cs.1 = md.2.2.2.2.1) (h2 : cs.2 ≤ md.2.2.2.2.2) (e1 : r = some (.inr (.inr (.inl x)))) (e2 : ah' = ah) : J l g md R (jQm g md r ah') pc ls [.inr (.inr (.inl x))] ah cs := by
  subst e1; subst e2
  intro p e s m args below meth cd H locs la hC hz hP hS hl
  obtain ⟨hx, hb, hr0, hml, hown, hts, hlk, hnm, hK, hAm, hN⟩ := hC
  refine W.widen (k := md.2.2.2.2.1) (n := md.2.2.2.2.2) (by omega) h2 ?_
  exact W.aret hx hb (hr0.trans hr) (Or.inl ⟨_, rfl⟩) (by cases x with | none => exact Or.inl rfl | some a => exact Or.inr ⟨_, rfl⟩) (fun t ht hW => ⟨rfl, ⟨by rw [ht]; exact hP, va_K.moved hW.alike hK⟩, hS.F ht, by omega⟩) (fun q hq => hS.2.2 q hq) hd
theorem J_retv {r : Option AV} {ah' : AH} (hd : decode md.2.1 pc = .ok (.return_, 1)) (hr : md.2.2.2.1 = none) (h1 : cs.1 = md.2.2.2.2.1) (h2 : cs.2 ≤ md.2.2.2.2.2) (e1 : r = none) (e2 : ah' = ah) : J l g md R (jQm g md r ah') pc ls [] ah cs := by
  subst e1; subst e2
  intro p e s m args below meth cd H locs la hC hz hP hS hl
  obtain ⟨hx, hb, hr0, hml, hown, hts, hlk, hnm, hK, hAm, hN⟩ := hC
  refine W.widen (k := md.2.2.2.2.1) (n := md.2.2.2.2.2) (by omega) h2 ?_
  exact W.vret hx hb (hr0.trans hr) (fun t ht hW => ⟨rfl, ⟨by rw [ht]; exact hP, va_K.moved hW.alike hK⟩, hS.F ht, by omega⟩) (fun q hq => hS.2.2 q hq) hd
/-! calls -/
theorem jAm_moved {s U : State} {H : Heap} {locs : List Loc} (h : jAm g s s.heap) (hN : jN g ≤ s.heap.size) (hS : va_S (jA g) s.heap H locs) (hU : U.heap = H) (hW : s.WarmedH U.vm) : jAm g U U.heap := by
  obtain ⟨h1, h2, h3, h4, h5, h6, h7, h8⟩ := h
  have key : ∀ a : Nat, a < s.heap.size → ¬ jA g a → U.heap[a]? = s.heap[a]? := fun a ha hb => by rw [hU]; exact hS.2.1 a ha hb
  exact ⟨(h1.moved hW.alike).kept (key _ (by omega) (fun q => by have : jN g ≤ jb g := q; omega)), h2, (h3.moved hW.alike).kept key, (h4.moved hW.alike).kept key, fun a i b n d h hm => va_Nw.warmF hW (h5 a i b n d h hm), fun a i x h hm => va_Nw.warmM hW (h6 a i x h hm), h7.moved hW.alike, h8.moved hW.alike⟩
theorem jblind {av : List AV} : FrameBlind (va_Pc (av.map (jcv g)) (fun U => jU g ah U ∧ jAm g U U.heap)) := by
  intro a U fr mk h
  obtain ⟨h0, ⟨h1, h2, h3⟩, h4⟩ := h
  have hal : U.vm.Alike (U.calling fr mk a).vm := Vm.Alike.refl U.vm
  obtain ⟨k1, k2, k3, k4, k5, k6, k7, k8⟩ := h4
  exact ⟨h0, ⟨h1, h2, va_K.moved (u := U) (U := U.calling fr mk a) hal h3⟩, k1.moved hal, k2, k3.moved hal, k4.moved hal, fun a i b n d h hm => va_Nw.same rfl rfl (k5 a i b n d h hm), fun a i x h hm => va_Nw.same rfl rfl (k6 a i x h hm), k7.moved hal, k8.moved hal⟩
/-- what a call's run gives -/
theorem J_run_call {md' : MD} {r : Option AV} {ah1 : AH} {st' : List AV} {cs' : Nat × Nat} {p : Program} {e : Env} {s : State} {m : MethodId} {args : Array Value} {below : List Frame} {meth : Method} {c : Code} {H : Heap} {locs : List Loc} {la : Array Slot} {a : Array Value} {st0 : List Value} (hC : jCx g md p s m args meth c) (hz : s.heap.size + cs.1 = jN g + ah.length) (hP : va_P (jD g) jj_cl (jw g ah) H) (hS : va_S (jA g) s.heap H locs) (hl : lv_has la md.2.2.1 (ls.map fun q => (q.1, jcv g q.2)))
    (hcs : cs' = (cs.1 + md'.2.2.2.2.1, cs.2 + md'.2.2.2.2.2))
    (hr : va_Run p l e R s m args below meth c H locs cs.1 cs.2 md'.2.2.2.2.1 md'.2.2.2.2.2 (F0 m pc la st0) (st.map (jcv g)) (jQc g md'.2.2.2.2.1 r ah1 a) (jA g))
    (hst : st' = r.toList ++ st) (k : J l g md R Q (pc + 3) ls st' ah1 cs') : W p l e R s m args below meth c H locs cs.1 cs.2 (Q below args s) (F0 m pc la st0) := by
  intro T hT X
  have hN := hC.2.2.2.2.2.2.2.2.2.2
  have hsz := jsz X hT hz hP hS hN
  obtain ⟨v, st₀, t, T', L, h0, X', hL, e1, e2, hq, hgo⟩ := hr T hT X
  obtain ⟨q1, ⟨q2, q3⟩, q4, q5⟩ := hq
  cases q1
  subst hcs
  have hS' : va_S (jA g) s.heap T'.heap (locs ++ L) := by
    have hz4 := q4.1
    have hk4 := q4.2
    rw [h0] at hz4 hk4
    refine ⟨Nat.le_trans hS.1 (by rw [e1]; exact hz4), fun q h1 h2 => ?_, fun q hq => ?_⟩
    · rw [e1, hk4 q (Nat.lt_of_lt_of_le h1 hS.1) h2]
      exact hS.2.1 q h1 h2
    · rcases List.mem_append.mp hq with h | h
      · exact hS.2.2 q h
      · exact hL q h
  have hk := k p e s m args below meth c T'.heap (locs ++ L) la hC (by rw [h0] at q5; show s.heap.size + (cs.1 + _) = _; omega) (by rw [e1]; exact q2) hS' hl T' rfl X'
  obtain ⟨t2, a1, b1⟩ := hk
  refine ⟨t2, hgo t2 ?_, b1⟩
  have e3 : (st'.map (jcv g)) = (r.map (jcv g)).toList ++ st.map (jcv g) := by
    rw [hst, List.map_append]
    cases r <;> rfl
  rw [e3] at a1
  exact a1
end
end
section
/-! ===== the calls ===== -/
def jYw (md' : MD) (n : Nat) : Prop := Cond.code md'.1 md'.2.1 md'.2.2.1 md'.2.2.2.1 ∈ jBG ∧ Cond.initialized md'.1.cls ∈ jBG ∧ (md'.1.cls ≠ "java/lang/invoke/MethodHandle" ∧ md'.1.cls ≠ "java/lang/invoke/VarHandle" ∧ (parseMethodDescriptor md'.1.desc).map (fun d => d.parameters.length) = some n)
def jYV (md' : MD) (n c : Nat) : Prop := jYw md' n ∧ Cond.instanceMethod md'.1 ∈ jBG ∧ Cond.selects md'.1.cls md'.1 md'.1 ∈ jBG ∧ ∃ (T : u_T) (N : Nat), jj_cl[c]? = some (md'.1.cls, T, N)
def jYS (md' : MD) (n : Nat) : Prop := jYw md' n ∧ Cond.static md'.1 ∈ jBG
def jYI (md' : MD) (n : Nat) : Prop := jYw md' n ∧ Cond.instanceMethod md'.1 ∈ jBG ∧ md'.1.name = "<init>"
def jRo (d : Nat) (md' : MD) (R : Room) : Prop := (jRm d md').frames + 1 ≤ R.frames ∧ 8 + (md'.2.2.1 + 11) + (jRm d md').locals ≤ R.locals
theorem jRo_of {d : Nat} {md md' : MD} (h : md'.2.2.1 ≤ 45) : jRo d md' (jRm (d + 1) md) := by
  refine ⟨Nat.le_refl _, ?_⟩
  show 8 + (md'.2.2.1 + 11) + 64 * d ≤ 64 * (d + 1)
  omega
theorem jroom {g : GX} {m : MethodId} {pc : Nat} {la : Array Slot} {rest : List Value} {st : List AV} (h : jwd st ≤ 8) : 2 * (F0 m pc la rest).monitorRoom + ((st.map (jcv g)).map fun v => v.category).sum ≤ 8 := by
  refine lv_room ?_
  have e : ((st.map (jcv g)).map fun v => v.category).sum = jwd st := by
    induction st with
    | nil => rfl
    | cons v r ih =>
      have ih' := ih (by simp only [jwd, List.map_cons, List.sum_cons] at h ⊢; omega)
      simp only [jwd, List.map_cons, List.sum_cons] at ih' ⊢
      rw [ih']
      obtain x | x | (_ | x) | (_ | _) := v <;> rfl
  omega
section
variable {l : Launch} {g : GX} {md : MD} {R : Room} {Q : jQ} {pc : Nat} {ls : List (Nat × AV)} {st : List AV} {ah : AH} {cs : Nat × Nat}
theorem jmap_rev (As : List AV) (v : AV) (st : List AV) : (As.reverse ++ v :: st).map (jcv g) = (As.map (jcv g)).reverse ++ jcv g v :: st.map (jcv g) := by
  rw [List.map_append, List.map_reverse]
  rfl
theorem J_callV {md' : MD} {d c idx : Nat} {o : Option Nat} {As stk st' : List AV} {r : Option AV} {ah1 : AH} {cs' : Nat × Nat} (hd : decode md.2.1 pc = .ok (.invokevirtual idx, 3)) (hlk : Cond.methodLink md.1.cls idx md'.1 ∈ jBG) (hy : jYV md' As.length c) (ho : qO ah o c = true) (hM : jM l g d md' (.inr (.inr (.inl o)) :: As) ah r ah1)
    (hR : jRo d md' R) (hw : jwd st ≤ 8) (hf : cs.1 + md'.2.2.2.2.1 ≤ R.cells ∧ cs.2 + md'.2.2.2.2.2 ≤ R.slots) (hcs : cs' = (cs.1 + md'.2.2.2.2.1, cs.2 + md'.2.2.2.2.2)) (hstk : stk = As.reverse ++ .inr (.inr (.inl o)) :: st) (hst : st' = r.toList ++ st) (k : J l g md R Q (pc + 3) ls st' ah1 cs') : J l g md R Q pc ls stk ah cs := by
  subst hstk
  intro p e s m args below meth cd H locs la hC hz hP hS hl
  have hC0 := hC
  obtain ⟨hx, hb, hr0, hml, hown, hts, hlk0, hnm, hK, hAm, hN⟩ := hC
  unfold qO at ho
  split at ho
  · cases ho
  · rename_i a
    split at ho
    · rename_i c' fs hc
      have hcc : c' = c := by simpa using ho
      subst hcc
      obtain ⟨⟨y1, y2, y3⟩, y4, y5, T, N, y6⟩ := hy
      intro T0 hT X
      have hsz := jsz X hT hz hP hS hN
      have hG : GoodIn (Cond.tt :: jBG) (jWs md') := jBG_good y1
      have hts' : ∀ w ∈ Cond.tt :: jBG, w.before args s = true := fun w hw => by
        rcases List.mem_cons.mp hw with rfl | hw
        · rfl
        · exact hts w hw
      rw [jmap_rev]
      have hpre : PreV s H md'.1.cls (jN g + a) (va_Pc (((.inr (.inr (.inl (some a))) : AV) :: As).map (jcv g)) (fun U => jU g ah U ∧ jAm g U U.heap)) (As.map (jcv g)) :=
        ⟨jblind, va_recv hK hP y6 (jw_get hc), fun U hU hW => ⟨rfl, ⟨by rw [hU]; exact hsz, by rw [hU]; exact hP, va_K.moved hW.alike hK⟩, jAm_moved hAm hN hS hU hW⟩⟩
      have hrun := va_runV (l := l) (e := e) (R := R) (below := below) (meth := meth) (locs := locs) (cells := cs.1) (slots := cs.2) (As := As.map (jcv g)) (rest := st.map (jcv g)) (g := F0 m pc la ((As.map (jcv g)).reverse ++ .ref (jN g + a) :: st.map (jcv g))) ⟨hx, hb, hml, hown, hts'⟩ hM ⟨callB_of As.length hts' hG rfl rfl rfl (hts _ y2) (hts _ hlk) y3 hR, hts _ y4, hts _ y5⟩ hpre rfl (by rw [List.length_map]) hl.1 rfl (jroom hw) hd hf
      exact J_run_call hC0 hz hP hS hl hcs hrun hst k T0 hT X
    · cases ho
theorem jmap_rev0 (As st : List AV) : (As.reverse ++ st).map (jcv g) = (As.map (jcv g)).reverse ++ st.map (jcv g) := by
  rw [List.map_append, List.map_reverse]
theorem J_callS {md' : MD} {d idx : Nat} {As stk st' : List AV} {r : Option AV} {ah1 : AH} {cs' : Nat × Nat} (hd : decode md.2.1 pc = .ok (.invokestatic idx, 3)) (hlk : Cond.methodLink md.1.cls idx md'.1 ∈ jBG ∨ ∃ host, Cond.methodLinkNest md.1.cls idx md'.1 host ∈ lw_tbl) (hy : jYS md' As.length) (hM : jM l g d md' As ah r ah1)
    (hR : jRo d md' R) (hw : jwd st ≤ 8) (hf : cs.1 + md'.2.2.2.2.1 ≤ R.cells ∧ cs.2 + md'.2.2.2.2.2 ≤ R.slots) (hcs : cs' = (cs.1 + md'.2.2.2.2.1, cs.2 + md'.2.2.2.2.2)) (hstk : stk = As.reverse ++ st) (hst : st' = r.toList ++ st) (k : J l g md R Q (pc + 3) ls st' ah1 cs') : J l g md R Q pc ls stk ah cs := by
  subst hstk
  intro p e s m args below meth cd H locs la hC hz hP hS hl
  have hC0 := hC
  obtain ⟨hx, hb, hr0, hml, hown, hts, hlk0, hnm, hK, hAm, hN⟩ := hC
  obtain ⟨⟨y1, y2, y3⟩, y4⟩ := hy
  intro T0 hT X
  have hsz := jsz X hT hz hP hS hN
  have hG : GoodIn (Cond.tt :: jBG) (jWs md') := jBG_good y1
  have hts' : ∀ w ∈ Cond.tt :: jBG, w.before args s = true := fun w hw => by
    rcases List.mem_cons.mp hw with rfl | hw
    · rfl
    · exact hts w hw
  rw [jmap_rev0]
  have hpre : PreS s H (va_Pc (As.map (jcv g)) (fun U => jU g ah U ∧ jAm g U U.heap)) (As.map (jcv g)) :=
    ⟨jblind, fun U hU hW => ⟨rfl, ⟨by rw [hU]; exact hsz, by rw [hU]; exact hP, va_K.moved hW.alike hK⟩, jAm_moved hAm hN hS hU hW⟩⟩
  rcases hlk with hlk | ⟨host, hlk⟩
  · have hrun := va_runS (l := l) (e := e) (R := R) (below := below) (meth := meth) (locs := locs) (cells := cs.1) (slots := cs.2) (As := As.map (jcv g)) (rest := st.map (jcv g)) (g := F0 m pc la ((As.map (jcv g)).reverse ++ st.map (jcv g))) ⟨hx, hb, hml, hown, hts'⟩ hM ⟨callB_of As.length hts' hG rfl rfl rfl (hts _ y2) (hts _ hlk) y3 hR, hts _ y4⟩ hpre rfl (by rw [List.length_map]) hl.1 rfl (jroom hw) hd hf
    exact J_run_call hC0 hz hP hS hl hcs hrun hst k T0 hT X
  · have hrun := va_runSN (l := l) (e := e) (R := R) (below := below) (meth := meth) (locs := locs) (cells := cs.1) (slots := cs.2) (As := As.map (jcv g)) (rest := st.map (jcv g)) (g := F0 m pc la ((As.map (jcv g)).reverse ++ st.map (jcv g))) ⟨hx, hb, hml, hown, hts'⟩ hM ⟨va_cnB As.length hts' hG rfl rfl rfl (hAm.2.2.2.2.2.1 _ _ _ _ hlk) (hts _ y2) y3 hR, hts _ y4, trivial⟩ hpre rfl (by rw [List.length_map]) hl.1 rfl (jroom hw) hd hf
    exact J_run_call hC0 hz hP hS hl hcs hrun hst k T0 hT X
theorem J_callI {md' : MD} {d idx b : Nat} {As stk : List AV} {ah1 : AH} {cs' : Nat × Nat} (hd : decode md.2.1 pc = .ok (.invokespecial idx, 3)) (hlk : Cond.methodLink md.1.cls idx md'.1 ∈ jBG ∨ ∃ host, Cond.methodLinkNest md.1.cls idx md'.1 host ∈ lw_tbl) (hy : jYI md' As.length) (hret : md'.2.2.2.1 = none) (hM : jM l g d md' (.inr (.inr (.inl (some b))) :: As) ah none ah1)
    (hR : jRo d md' R) (hw : jwd st ≤ 8) (hf : cs.1 + md'.2.2.2.2.1 ≤ R.cells ∧ cs.2 + md'.2.2.2.2.2 ≤ R.slots) (hcs : cs' = (cs.1 + md'.2.2.2.2.1, cs.2 + md'.2.2.2.2.2)) (hstk : stk = As.reverse ++ .inr (.inr (.inl (some b))) :: st) (k : J l g md R Q (pc + 3) ls st ah1 cs') : J l g md R Q pc ls stk ah cs := by
  subst hstk
  intro p e s m args below meth cd H locs la hC hz hP hS hl
  have hC0 := hC
  obtain ⟨hx, hb, hr0, hml, hown, hts, hlk0, hnm, hK, hAm, hN⟩ := hC
  obtain ⟨⟨y1, y2, y3⟩, y4, y5⟩ := hy
  rw [hret] at y1
  intro T0 hT X
  have hsz := jsz X hT hz hP hS hN
  have hws : jWs md' = Cond.code md'.1 md'.2.1 md'.2.2.1 none :: jBG := by rw [jWs, hret]
  have hG : GoodIn (Cond.tt :: jBG) (jWs md') := by rw [hws]; exact jBG_good y1
  have hts' : ∀ w ∈ Cond.tt :: jBG, w.before args s = true := fun w hw => by
    rcases List.mem_cons.mp hw with rfl | hw
    · rfl
    · exact hts w hw
  rw [jmap_rev]
  have hpre : PreS s H (va_Pc (((.inr (.inr (.inl (some b))) : AV) :: As).map (jcv g)) (fun U => jU g ah U ∧ jAm g U U.heap)) (.ref (jN g + b) :: As.map (jcv g)) :=
    ⟨jblind, fun U hU hW => ⟨rfl, ⟨by rw [hU]; exact hsz, by rw [hU]; exact hP, va_K.moved hW.alike hK⟩, jAm_moved hAm hN hS hU hW⟩⟩
  rcases hlk with hlk | ⟨host, hlk⟩
  · have hrun := va_runI (l := l) (e := e) (R := R) (below := below) (meth := meth) (locs := locs) (cells := cs.1) (slots := cs.2) (b := jN g + b) (As := As.map (jcv g)) (rest := st.map (jcv g)) (g := F0 m pc la ((As.map (jcv g)).reverse ++ .ref (jN g + b) :: st.map (jcv g))) ⟨hx, hb, hml, hown, hts'⟩ hM ⟨callB_of As.length hts' hG hws rfl rfl (hts _ y2) (hts _ hlk) y3 hR, y5, hts _ y4⟩ hpre rfl (by rw [List.length_map]) hl.1 rfl (jroom hw) hd hf
    exact J_run_call (r := none) hC0 hz hP hS hl hcs hrun rfl k T0 hT X
  · have hrun := va_runIN (l := l) (e := e) (R := R) (below := below) (meth := meth) (locs := locs) (cells := cs.1) (slots := cs.2) (b := jN g + b) (As := As.map (jcv g)) (rest := st.map (jcv g)) (g := F0 m pc la ((As.map (jcv g)).reverse ++ .ref (jN g + b) :: st.map (jcv g))) ⟨hx, hb, hml, hown, hts'⟩ hM ⟨va_cnB As.length hts' hG hws rfl rfl (hAm.2.2.2.2.2.1 _ _ _ _ hlk) (hts _ y2) y3 hR, y5, hts _ y4⟩ hpre rfl (by rw [List.length_map]) hl.1 rfl (jroom hw) hd hf
    exact J_run_call (r := none) hC0 hz hP hS hl hcs hrun rfl k T0 hT X
/-- Object's constructor -/
theorem J_obj {idx b : Nat} (hd : decode md.2.1 pc = .ok (.invokespecial idx, 3)) (hlk : Cond.methodLink md.1.cls idx Lib.objectInit ∈ jBG) (hi : Cond.instanceMethod Lib.objectInit ∈ jBG) (hc : Cond.code Lib.objectInit ⟨#[0xb1]⟩ 1 none ∈ jBG) (hR : 1 ≤ R.frames ∧ 20 ≤ R.locals) (hw : jwd st ≤ 8) (k : J l g md R Q (pc + 3) ls st ah cs) : J l g md R Q pc ls (.inr (.inr (.inl (some b))) :: st) ah cs := by
  intro p e s m args below meth cd H locs la hC hz hP hS hl
  have kk := k p e s m args below meth cd H locs la hC hz hP hS hl
  obtain ⟨hx, hb, hr0, hml, hown, hts, hlk0, hnm, hK, hAm, hN⟩ := hC
  exact W.objInit hx hb hown (hts _ hlk) (hts _ hi) (hts _ hc) rfl (by rw [hml]; exact hl.1) rfl hd hR.1 (Nat.le_trans (Nat.add_le_add_right (jroom hw) 12) hR.2) kk
theorem jce_cp (g : GX) (xs ys : List Int32) (sp dp n : Nat) : jce g (.inl (cpL xs ys sp dp n)) = .inl ((jC g).1, ys.length, .inl (fun j => (cpL xs ys sp dp n).getD j 0)) := by
  simp only [jce, cpL, List.length_mapIdx]
theorem cpL_get {xs ys : List Int32} {sp dp n j : Nat} (h : dp + n ≤ ys.length) : (cpL xs ys sp dp n).getD j 0 = va_cpy (fun j => xs.getD j 0) (fun j => ys.getD j 0) sp dp n j := by
  simp only [cpL, va_cpy, List.getD_eq_getElem?_getD, List.getElem?_mapIdx]
  by_cases hj : j < ys.length
  · rw [List.getElem?_eq_getElem hj]
    simp only [Option.map_some, Option.getD_some]
  · rw [List.getElem?_eq_none (Nat.not_lt.mp hj)]
    simp only [Option.map_none, Option.getD_none]
    rw [if_neg (by omega)]
/-- System.arraycopy of ints -/
theorem J_cpy {idx : Nat} {o o' : Option Nat} {sp dp n : Int32} {ah' : AH} (hd : decode md.2.1 pc = .ok (.invokestatic idx, 3)) (hlk : Cond.methodLink md.1.cls idx arraycopyName ∈ jBG) (hi : Cond.native arraycopyName ∈ jBG ∧ Cond.static arraycopyName ∈ jBG ∧ Cond.initialized "java/lang/System" ∈ jBG) (hR : 1 ≤ R.frames ∧ 8 + (nativeFrameWords "java/lang/System" "arraycopy" 5 + 11) ≤ R.locals) (hw : jwd st ≤ 8) (h : cA ah o sp o' dp n = some ah') (k : J l g md R Q (pc + 3) ls st ah' cs) : J l g md R Q pc ls (.inl n :: .inl dp :: .inr (.inr (.inl o')) :: .inl sp :: .inr (.inr (.inl o)) :: st) ah cs := by
  intro p e s m args below meth cd H locs la hC hz hP hS hl
  have hC0 := hC
  obtain ⟨hx, hb, hr0, hml, hown, hts, hlk0, hnm, hK, hAm, hN⟩ := hC
  unfold cA at h
  split at h
  · rename_i a a'
    split at h
    · rename_i xs ys hc hc'
      split at h
      · rename_i hq
        obtain ⟨⟨q1, q2, q3⟩, q4, q5⟩ := hq
        cases h
        have h8 : 2 * (F0 m pc la ([] : List Value)).monitorRoom + ((st.map (jcv g)).map fun v => v.category).sum ≤ 8 := jroom hw
        refine va_copyi hx hb (by rw [hml]; exact hl.1.symm) hown (hts _ hlk) (hts _ hi.1) (hts _ hi.2.1) (hts _ hi.2.2) hK hP (jw_D g ah) hS a a' 0 0 (ty := .int) (jw_get hc) (jw_get hc') rfl rfl rfl q1 q2 q3 q4 q5 (fun i hi => rfl) hR.1 (by have := hR.2; omega) hd (fun H1 locs1 hP1 _ hS1 => ?_)
        refine k p e s m args below meth cd H1 locs1 la hC0 (by rw [hz, List.length_set]) ?_ hS1 hl
        rw [jw_set, jce_cp, show (fun j => (cpL xs ys sp.toNatClampNeg dp.toNatClampNeg n.toNatClampNeg).getD j 0) = va_cpy (fun j => xs.getD j 0) (fun j => ys.getD j 0) sp.toNatClampNeg dp.toNatClampNeg n.toNatClampNeg from funext fun j => cpL_get q5]
        exact hP1
      · cases h
    · cases h
  · cases h
theorem J_wid {n : Nat} (h : cs.2 ≤ n) (k : J l g md R Q pc ls st ah (cs.1, n)) : J l g md R Q pc ls st ah cs := fun p e s m args below meth cd H locs la hC hz hP hS hl =>
  W.widen (Nat.le_refl _) h (k p e s m args below meth cd H locs la hC hz hP hS hl)
theorem J_sub {ls' : List (Nat × AV)} (ks : List Nat) (h : ks.filterMap (fun k => ls[k]?) = ls') (k : J l g md R Q pc ls' st ah cs) : J l g md R Q pc ls st ah cs := fun p e s m args below meth cd H locs la hC hz hP hS hl =>
  k p e s m args below meth cd H locs la hC hz hP hS (lv_sub hl ks (by
    subst h
    simp only [lv_pick, List.map_filterMap, List.getElem?_map]))
end
/-! ===== loops as functions of a fuel ===== -/
def jfuel : Nat := 1000000
def jloop {S X T : Type} (body : S → AH → Option ((T × AH) ⊕ ((X × AH) ⊕ (S × AH)))) : Nat → S → AH → Option ((T × AH) ⊕ (X × AH))
  | 0, _, _ => none
  | n + 1, s, ah => match body s ah with
    | none => none
    | some (.inl r) => some (.inl r)
    | some (.inr (.inl x)) => some (.inr x)
    | some (.inr (.inr q)) => jloop body n q.1 q.2
/-- what is owed at a return -/
def jRetI (l : Launch) (g : GX) (md : MD) (R : Room) (Q : jQ) (cs : Nat × Nat) (x : Int32) (ah : AH) : Prop := ∀ pc ls, decode md.2.1 pc = .ok (.ireturn, 1) → J l g md R Q pc ls [.inl x] ah cs
def jRetZ (l : Launch) (g : GX) (md : MD) (R : Room) (Q : jQ) (cs : Nat × Nat) (x : Int32) (ah : AH) : Prop := ∀ pc ls, decode md.2.1 pc = .ok (.ireturn, 1) → (x = 0 ∨ x = 1) → J l g md R Q pc ls [.inl x] ah cs
def jRetL (l : Launch) (g : GX) (md : MD) (R : Room) (Q : jQ) (cs : Nat × Nat) (x : Int64) (ah : AH) : Prop := ∀ pc ls, decode md.2.1 pc = .ok (.lreturn, 1) → J l g md R Q pc ls [.inr (.inl x)] ah cs
def jRetA (l : Launch) (g : GX) (md : MD) (R : Room) (Q : jQ) (cs : Nat × Nat) (x : Option Nat) (ah : AH) : Prop := ∀ pc ls, decode md.2.1 pc = .ok (.areturn, 1) → J l g md R Q pc ls [.inr (.inr (.inl x))] ah cs
def jRetV (l : Launch) (g : GX) (md : MD) (R : Room) (Q : jQ) (cs : Nat × Nat) (_ : Unit) (ah : AH) : Prop := ∀ pc ls, decode md.2.1 pc = .ok (.return_, 1) → J l g md R Q pc ls [] ah cs
def jRetN (_ : Unit) (_ : AH) : Prop := False
theorem J_loop {S X T : Type} {body : S → AH → Option ((T × AH) ⊕ ((X × AH) ⊕ (S × AH)))} {l : Launch} {g : GX} {md : MD} {R : Room} {Q : jQ} {cs : Nat × Nat} {pH pE : Nat} {lh : S → List (Nat × AV)} {lx : X → List (Nat × AV)} {P : T → AH → Prop}
    (hb : ∀ s ah out, body s ah = some out → (∀ q, out = .inl q → P q.1 q.2) → (∀ q, out = .inr (.inl q) → J l g md R Q pE (lx q.1) [] q.2 cs) → (∀ q, out = .inr (.inr q) → J l g md R Q pH (lh q.1) [] q.2 cs) → J l g md R Q pH (lh s) [] ah cs) :
    ∀ n s ah out, jloop body n s ah = some out → (∀ q, out = .inl q → P q.1 q.2) → (∀ q, out = .inr q → J l g md R Q pE (lx q.1) [] q.2 cs) → J l g md R Q pH (lh s) [] ah cs := by
  intro n
  induction n with
  | zero => intro s ah out h; cases h
  | succ n ih =>
    intro s ah out h hR hX
    rw [jloop] at h
    cases hq : body s ah with
    | none => rw [hq] at h; cases h
    | some o =>
      rw [hq] at h
      rcases o with r | x | q
      · cases h
        exact hb s ah _ hq (fun q e => hR q (by cases e; rfl)) (fun q e => by cases e) (fun q e => by cases e)
      · cases h
        exact hb s ah _ hq (fun q e => by cases e) (fun q e => hX q (by cases e; rfl)) (fun q e => by cases e)
      · refine hb s ah _ hq (fun q e => by cases e) (fun q e => by cases e) (fun q' e => ?_)
        cases e
        exact ih _ _ _ h hR hX
theorem jtoInt_ne {x : Int32} {k : Int32} {n : Int} (hk : k.toInt = n) (h : ¬ x = k) : ¬ x.toInt = n := fun e => h (Int32.toInt_inj.mp (e.trans hk.symm))
end
section
theorem jat {md : MD} {tb : List (Nat × Instr)} (ok : jOk md tb) (k : Nat) {pc n : Nat} {i : Instr} (h : tb[k]? = some (pc, i)) (hn : jlen i = n) : decode md.2.1 pc = .ok (i, n) := by
  subst hn
  have h1 := ok k (pc, i) h
  exact h1
section
variable {l : Launch} {g : GX} {md : MD} {R : Room} {Q : jQ} {pc : Nat} {ls : List (Nat × AV)} {st : List AV} {ah : AH} {cs : Nat × Nat}
theorem J_max {x y : Int32} {idx : Nat} (hd : decode md.2.1 pc = .ok (.invokestatic idx, 3)) (hlk : Cond.methodLink md.1.cls idx Lib.Math.max.name ∈ jBG) (hi : Cond.static Lib.Math.max.name ∈ jBG ∧ Cond.initialized "java/lang/Math" ∈ jBG ∧ Cond.code Lib.Math.max.name Lib.Math.max.code 2 (some .int) ∈ jBG) (hR : 1 ≤ R.frames ∧ 21 ≤ R.locals) (hw : jwd st ≤ 8) (hf : cs.1 ≤ R.cells ∧ cs.2 ≤ R.slots)
    (k : J l g md R Q (pc + 3) ls (.inl (if x < y then y else x) :: st) ah cs) : J l g md R Q pc ls (.inl y :: .inl x :: st) ah cs := by
  intro p e s m args below meth cd H locs la hC hz hP hS hl
  have kk := k p e s m args below meth cd H locs la hC hz hP hS hl
  obtain ⟨hx, hb, hr0, hml, hown, hts, hlk0, hnm, hK, hAm, hN⟩ := hC
  have h8 : 2 * (F0 m pc la ([] : List Value)).monitorRoom + ((st.map (jcv g)).map fun v => v.category).sum ≤ 8 := jroom hw
  exact va_mmax hx hb (by rw [hml]; exact hl.1.symm) hown (hts _ hlk) (hts _ hi.1) (hts _ hi.2.1) (hts _ hi.2.2) hR.1 (by have := hR.2; omega) hf.1 hf.2 hd kk
theorem J_min {x y : Int32} {idx : Nat} (hd : decode md.2.1 pc = .ok (.invokestatic idx, 3)) (hlk : Cond.methodLink md.1.cls idx Lib.Math.min.name ∈ jBG) (hi : Cond.static Lib.Math.min.name ∈ jBG ∧ Cond.initialized "java/lang/Math" ∈ jBG ∧ Cond.code Lib.Math.min.name Lib.Math.min.code 2 (some .int) ∈ jBG) (hR : 1 ≤ R.frames ∧ 21 ≤ R.locals) (hw : jwd st ≤ 8) (hf : cs.1 ≤ R.cells ∧ cs.2 ≤ R.slots)
    (k : J l g md R Q (pc + 3) ls (.inl (if y < x then y else x) :: st) ah cs) : J l g md R Q pc ls (.inl y :: .inl x :: st) ah cs := by
  intro p e s m args below meth cd H locs la hC hz hP hS hl
  have kk := k p e s m args below meth cd H locs la hC hz hP hS hl
  obtain ⟨hx, hb, hr0, hml, hown, hts, hlk0, hnm, hK, hAm, hN⟩ := hC
  have h8 : 2 * (F0 m pc la ([] : List Value)).monitorRoom + ((st.map (jcv g)).map fun v => v.category).sum ≤ 8 := jroom hw
  exact va_mmin hx hb (by rw [hml]; exact hl.1.symm) hown (hts _ hlk) (hts _ hi.1) (hts _ hi.2.1) (hts _ hi.2.2) hR.1 (by have := hR.2; omega) hf.1 hf.2 hd kk
end
end
section
def md_X0_init : MD := (yX0_init, cX0_init, 1, none, 3, 390)
def tb_X0_init : List (Nat × Instr) := [(0, .aload_n 0), (1, .invokespecial 3), (4, .aload_n 0), (5, .sipush 320), (8, .newarray .int), (10, .putfield 9), (13, .aload_n 0), (14, .bipush 6), (16, .newarray .int), (18, .putfield 15), (21, .aload_n 0), (22, .bipush 64), (24, .newarray .int), (26, .putfield 18), (29, .return_)]
set_option maxRecDepth 100000 in
theorem ok_X0_init : jOk md_X0_init tb_X0_init := jOk_of (by decide +kernel)
def md_J6_bitCount_0f7a4 : MD := (yJ6_bitCount_0f7a4, cJ6_bitCount_0f7a4, 1, (some .int), 0, 0)
def tb_J6_bitCount_0f7a4 : List (Nat × Instr) := [(0, .iload_n 0), (1, .iload_n 0), (2, .iconst 1), (3, .iushr), (4, .ldc_w 265), (7, .iand), (8, .isub), (9, .istore_n 0), (10, .iload_n 0), (11, .ldc_w 266), (14, .iand), (15, .iload_n 0), (16, .iconst 2), (17, .iushr), (18, .ldc_w 266), (21, .iand), (22, .iadd), (23, .istore_n 0), (24, .iload_n 0), (25, .iload_n 0), (26, .iconst 4), (27, .iushr), (28, .iadd), (29, .ldc_w 267), (32, .iand), (33, .istore_n 0), (34, .iload_n 0), (35, .iload_n 0), (36, .bipush 8), (38, .iushr), (39, .iadd), (40, .istore_n 0), (41, .iload_n 0), (42, .iload_n 0), (43, .bipush 16), (45, .iushr), (46, .iadd), (47, .istore_n 0), (48, .iload_n 0), (49, .bipush 63), (51, .iand), (52, .ireturn)]
set_option maxRecDepth 100000 in
theorem ok_J6_bitCount_0f7a4 : jOk md_J6_bitCount_0f7a4 tb_J6_bitCount_0f7a4 := jOk_of (by decide +kernel)
def md_X0_add : MD := (yX0_add, cX0_add, 3, none, 0, 0)
def tb_X0_add : List (Nat × Instr) := [(0, .iload_n 1), (1, .ifCond .ne 40), (4, .aload_n 0), (5, .getfield 21), (8, .ifCond .lt 33), (11, .aload_n 0), (12, .getfield 21), (15, .sipush 320), (18, .if_icmp .ge 23), (21, .aload_n 0), (22, .getfield 9), (25, .aload_n 0), (26, .getfield 21), (29, .iload_n 2), (30, .iastore), (31, .aload_n 0), (32, .dup), (33, .getfield 21), (36, .iconst 1), (37, .iadd), (38, .putfield 21), (41, .return_)]
set_option maxRecDepth 100000 in
theorem ok_X0_add : jOk md_X0_add tb_X0_add := jOk_of (by decide +kernel)
def md_X5_isIn : MD := (yX5_isIn, cX5_isIn, 2, (some .boolean), 0, 0)
def tb_X5_isIn : List (Nat × Instr) := [(0, .iload_n 1), (1, .ifCond .lt 22), (4, .iload_n 1), (5, .bipush 6), (7, .if_icmp .ge 16), (10, .iload_n 0), (11, .iload_n 1), (12, .ishr), (13, .iconst 1), (14, .iand), (15, .iconst 1), (16, .if_icmp .ne 7), (19, .iconst 1), (20, .goto 4), (23, .iconst 0), (24, .ireturn)]
set_option maxRecDepth 100000 in
theorem ok_X5_isIn : jOk md_X5_isIn tb_X5_isIn := jOk_of (by decide +kernel)
def md_X0_draw : MD := (yX0_draw, cX0_draw, 7, none, 0, 0)
def tb_X0_draw : List (Nat × Instr) := [(0, .aload_n 0), (1, .getfield 30), (4, .istore 4), (6, .iload_n 1), (7, .ifCond .lt 15), (10, .iload_n 1), (11, .iload 4), (13, .if_icmp .ge 9), (16, .iload_n 1), (17, .bipush 6), (19, .if_icmp .lt 10), (22, .aload_n 0), (23, .iload_n 2), (24, .iload_n 3), (25, .invokevirtual 39), (28, .return_), (29, .iload_n 2), (30, .aload_n 0), (31, .getfield 15), (34, .iload_n 1), (35, .iaload), (36, .iconst (-1)), (37, .ixor), (38, .iand), (39, .istore 5), (41, .iconst 0), (42, .istore 6), (44, .iload 6), (46, .iload 4), (48, .if_icmp .ge 42), (51, .iload 5), (53, .iload 6), (55, .invokestatic 43), (58, .ifCond .eq 26), (61, .aload_n 0), (62, .iload_n 1), (63, .iconst 1), (64, .iadd), (65, .iload_n 2), (66, .iconst 1), (67, .iload 6), (69, .ishl), (70, .iconst (-1)), (71, .ixor), (72, .iand), (73, .iload_n 3), (74, .iload 6), (76, .iconst 3), (77, .iload_n 1), (78, .imul), (79, .ishl), (80, .ior), (81, .invokestatic 35), (84, .iinc 6 1), (87, .goto (-43)), (90, .iload 4), (92, .iload_n 1), (93, .isub), (94, .iload_n 2), (95, .invokestatic 47), (98, .if_icmp .le 19), (101, .aload_n 0), (102, .iload_n 1), (103, .iconst 1), (104, .iadd), (105, .iload_n 2), (106, .iload_n 3), (107, .bipush 7), (109, .iconst 3), (110, .iload_n 1), (111, .imul), (112, .ishl), (113, .ior), (114, .invokestatic 35), (117, .return_)]
set_option maxRecDepth 100000 in
theorem ok_X0_draw : jOk md_X0_draw tb_X0_draw := jOk_of (by decide +kernel)
def md_X1_has : MD := (yX1_has, cX1_has, 2, (some .boolean), 0, 0)
def tb_X1_has : List (Nat × Instr) := [(0, .iload_n 1), (1, .ifCond .lt 21), (4, .iload_n 1), (5, .aload_n 0), (6, .getfield 27), (9, .if_icmp .ge 13), (12, .iload_n 1), (13, .bipush 6), (15, .if_icmp .ge 7), (18, .iconst 1), (19, .goto 4), (22, .iconst 0), (23, .ireturn)]
set_option maxRecDepth 100000 in
theorem ok_X1_has : jOk md_X1_has tb_X1_has := jOk_of (by decide +kernel)
def md_X1_lovedBy : MD := (yX1_lovedBy, cX1_lovedBy, 2, (some .int), 0, 0)
def tb_X1_lovedBy : List (Nat × Instr) := [(0, .aload_n 0), (1, .iload_n 1), (2, .invokevirtual 34), (5, .ifCond .eq 12), (8, .aload_n 0), (9, .getfield 21), (12, .iload_n 1), (13, .iaload), (14, .goto 4), (17, .iconst 0), (18, .ireturn)]
set_option maxRecDepth 100000 in
theorem ok_X1_lovedBy : jOk md_X1_lovedBy tb_X1_lovedBy := jOk_of (by decide +kernel)
def md_X0_seek : MD := (yX0_seek, cX0_seek, 5, none, 0, 0)
def tb_X0_seek : List (Nat × Instr) := [(0, .aload_n 0), (1, .iconst 0), (2, .putfield 21), (5, .aload_n 0), (6, .aload_n 1), (7, .getfield 25), (10, .putfield 30), (13, .iconst 0), (14, .istore 4), (16, .iload 4), (18, .bipush 6), (20, .if_icmp .ge 35), (23, .aload_n 0), (24, .getfield 15), (27, .iload 4), (29, .iconst 1), (30, .iload 4), (32, .ishl), (33, .iload_n 3), (34, .ifCond .eq 7), (37, .iconst 0), (38, .goto 9), (41, .aload_n 1), (42, .iload 4), (44, .invokevirtual 31), (47, .ior), (48, .iastore), (49, .iinc 4 1), (52, .goto (-36)), (55, .aload_n 0), (56, .iconst 0), (57, .iload_n 2), (58, .iconst 0), (59, .invokestatic 35), (62, .return_)]
set_option maxRecDepth 100000 in
theorem ok_X0_seek : jOk md_X0_seek tb_X0_seek := jOk_of (by decide +kernel)
def md_X0_victimIn : MD := (yX0_victimIn, cX0_victimIn, 4, (some .int), 0, 0)
def tb_X0_victimIn : List (Nat × Instr) := [(0, .iload_n 1), (1, .ifCond .lt 18), (4, .iload_n 1), (5, .aload_n 0), (6, .getfield 21), (9, .if_icmp .ge 10), (12, .iload_n 1), (13, .sipush 320), (16, .if_icmp .lt 6), (19, .bipush (-9)), (21, .ireturn), (22, .aload_n 0), (23, .getfield 9), (26, .iload_n 1), (27, .iaload), (28, .iconst 3), (29, .iload_n 2), (30, .imul), (31, .ishr), (32, .bipush 7), (34, .iand), (35, .istore_n 3), (36, .iload_n 3), (37, .bipush 7), (39, .if_icmp .ne 8), (42, .bipush (-9)), (44, .goto 4), (47, .iload_n 3), (48, .ireturn)]
set_option maxRecDepth 100000 in
theorem ok_X0_victimIn : jOk md_X0_victimIn tb_X0_victimIn := jOk_of (by decide +kernel)
def md_X0_victimsOf : MD := (yX0_victimsOf, cX0_victimsOf, 5, (some .int), 0, 0)
def tb_X0_victimsOf : List (Nat × Instr) := [(0, .iconst 0), (1, .istore_n 3), (2, .iconst 0), (3, .istore 4), (5, .iload 4), (7, .aload_n 0), (8, .getfield 30), (11, .if_icmp .ge 33), (14, .iload_n 2), (15, .iload 4), (17, .ishr), (18, .iconst 1), (19, .iand), (20, .iconst 1), (21, .if_icmp .ne 17), (24, .iload_n 3), (25, .iconst 1), (26, .iload_n 1), (27, .iconst 3), (28, .iload 4), (30, .imul), (31, .ishr), (32, .bipush 7), (34, .iand), (35, .ishl), (36, .ior), (37, .istore_n 3), (38, .iinc 4 1), (41, .goto (-36)), (44, .iload_n 3), (45, .ireturn)]
set_option maxRecDepth 100000 in
theorem ok_X0_victimsOf : jOk md_X0_victimsOf tb_X0_victimsOf := jOk_of (by decide +kernel)
def md_X0_retain : MD := (yX0_retain, cX0_retain, 5, none, 0, 0)
def tb_X0_retain : List (Nat × Instr) := [(0, .iconst 0), (1, .istore_n 3), (2, .iconst 0), (3, .istore 4), (5, .iload 4), (7, .aload_n 0), (8, .getfield 21), (11, .if_icmp .ge 49), (14, .iload 4), (16, .sipush 320), (19, .if_icmp .ge 41), (22, .aload_n 0), (23, .aload_n 0), (24, .getfield 9), (27, .iload 4), (29, .iaload), (30, .iload_n 1), (31, .invokevirtual 52), (34, .iload_n 2), (35, .if_icmp .ne 19), (38, .aload_n 0), (39, .getfield 9), (42, .iload_n 3), (43, .aload_n 0), (44, .getfield 9), (47, .iload 4), (49, .iaload), (50, .iastore), (51, .iinc 3 1), (54, .iinc 4 1), (57, .goto (-52)), (60, .aload_n 0), (61, .iload_n 3), (62, .putfield 21), (65, .return_)]
set_option maxRecDepth 100000 in
theorem ok_X0_retain : jOk md_X0_retain tb_X0_retain := jOk_of (by decide +kernel)
def md_X0_countPair : MD := (yX0_countPair, cX0_countPair, 5, (some .int), 0, 0)
def tb_X0_countPair : List (Nat × Instr) := [(0, .iconst 0), (1, .istore_n 3), (2, .iconst 0), (3, .istore 4), (5, .iload 4), (7, .aload_n 0), (8, .getfield 21), (11, .if_icmp .ge 23), (14, .aload_n 0), (15, .iload 4), (17, .iload_n 1), (18, .invokevirtual 56), (21, .iload_n 2), (22, .if_icmp .ne 6), (25, .iinc 3 1), (28, .iinc 4 1), (31, .goto (-26)), (34, .iload_n 3), (35, .ireturn)]
set_option maxRecDepth 100000 in
theorem ok_X0_countPair : jOk md_X0_countPair tb_X0_countPair := jOk_of (by decide +kernel)
def md_X0_countMutual : MD := (yX0_countMutual, cX0_countMutual, 5, (some .int), 0, 0)
def tb_X0_countMutual : List (Nat × Instr) := [(0, .iconst 0), (1, .istore_n 3), (2, .iconst 0), (3, .istore 4), (5, .iload 4), (7, .aload_n 0), (8, .getfield 21), (11, .if_icmp .ge 34), (14, .aload_n 0), (15, .iload 4), (17, .iload_n 1), (18, .invokevirtual 56), (21, .iload_n 2), (22, .if_icmp .ne 17), (25, .aload_n 0), (26, .iload 4), (28, .iload_n 2), (29, .invokevirtual 56), (32, .iload_n 1), (33, .if_icmp .ne 6), (36, .iinc 3 1), (39, .iinc 4 1), (42, .goto (-37)), (45, .iload_n 3), (46, .ireturn)]
set_option maxRecDepth 100000 in
theorem ok_X0_countMutual : jOk md_X0_countMutual tb_X0_countMutual := jOk_of (by decide +kernel)
def md_J7_fill_53178 : MD := (yJ7_fill_53178, cJ7_fill_53178, 4, none, 0, 0)
def tb_J7_fill_53178 : List (Nat × Instr) := [(0, .iconst 0), (1, .istore_n 2), (2, .aload_n 0), (3, .arraylength), (4, .istore_n 3), (5, .iload_n 2), (6, .iload_n 3), (7, .if_icmp .ge 13), (10, .aload_n 0), (11, .iload_n 2), (12, .iload_n 1), (13, .iastore), (14, .iinc 2 1), (17, .goto (-12)), (20, .return_)]
set_option maxRecDepth 100000 in
theorem ok_J7_fill_53178 : jOk md_J7_fill_53178 tb_J7_fill_53178 := jOk_of (by decide +kernel)
def md_X0_mostAlike : MD := (yX0_mostAlike, cX0_mostAlike, 5, (some .int), 0, 0)
def tb_X0_mostAlike : List (Nat × Instr) := [(0, .aload_n 0), (1, .getfield 18), (4, .iconst 0), (5, .invokestatic 59), (8, .iconst 0), (9, .istore_n 2), (10, .iconst 0), (11, .istore_n 3), (12, .iload_n 3), (13, .aload_n 0), (14, .getfield 21), (17, .if_icmp .ge 64), (20, .iload_n 3), (21, .sipush 320), (24, .if_icmp .ge 57), (27, .aload_n 0), (28, .aload_n 0), (29, .getfield 9), (32, .iload_n 3), (33, .iaload), (34, .iload_n 1), (35, .invokevirtual 52), (38, .istore 4), (40, .iload 4), (42, .ifCond .lt 33), (45, .iload 4), (47, .bipush 64), (49, .if_icmp .ge 26), (52, .aload_n 0), (53, .getfield 18), (56, .iload 4), (58, .dup2), (59, .iaload), (60, .iconst 1), (61, .iadd), (62, .iastore), (63, .iload_n 2), (64, .aload_n 0), (65, .getfield 18), (68, .iload 4), (70, .iaload), (71, .invokestatic 65), (74, .istore_n 2), (75, .iinc 3 1), (78, .goto (-66)), (81, .iload_n 2), (82, .ireturn)]
set_option maxRecDepth 100000 in
theorem ok_X0_mostAlike : jOk md_X0_mostAlike tb_X0_mostAlike := jOk_of (by decide +kernel)
def md_X1_init : MD := (yX1_init, cX1_init, 1, none, 5, 30)
def tb_X1_init : List (Nat × Instr) := [(0, .aload_n 0), (1, .invokespecial 3), (4, .aload_n 0), (5, .bipush 6), (7, .newarray .int), (9, .putfield 9), (12, .aload_n 0), (13, .bipush 6), (15, .newarray .int), (17, .putfield 15), (20, .aload_n 0), (21, .bipush 6), (23, .newarray .int), (25, .putfield 18), (28, .aload_n 0), (29, .bipush 6), (31, .newarray .int), (33, .putfield 21), (36, .aload_n 0), (37, .bipush 6), (39, .newarray .int), (41, .putfield 24), (44, .return_)]
set_option maxRecDepth 100000 in
theorem ok_X1_init : jOk md_X1_init tb_X1_init := jOk_of (by decide +kernel)
def md_X1_clear : MD := (yX1_clear, cX1_clear, 1, none, 0, 0)
def tb_X1_clear : List (Nat × Instr) := [(0, .aload_n 0), (1, .iconst 0), (2, .putfield 27), (5, .aload_n 0), (6, .iconst 0), (7, .putfield 31), (10, .return_)]
set_option maxRecDepth 100000 in
theorem ok_X1_clear : jOk md_X1_clear tb_X1_clear := jOk_of (by decide +kernel)
def md_X1_join : MD := (yX1_join, cX1_join, 5, none, 0, 0)
def tb_X1_join : List (Nat × Instr) := [(0, .aload_n 0), (1, .getfield 27), (4, .ifCond .lt 12), (7, .aload_n 0), (8, .getfield 27), (11, .bipush 6), (13, .if_icmp .lt 4), (16, .return_), (17, .aload_n 0), (18, .getfield 9), (21, .aload_n 0), (22, .getfield 27), (25, .iload_n 1), (26, .iastore), (27, .aload_n 0), (28, .getfield 15), (31, .aload_n 0), (32, .getfield 27), (35, .iload_n 2), (36, .iastore), (37, .aload_n 0), (38, .getfield 18), (41, .aload_n 0), (42, .getfield 27), (45, .iload_n 3), (46, .iastore), (47, .aload_n 0), (48, .getfield 21), (51, .aload_n 0), (52, .getfield 27), (55, .iconst 0), (56, .iastore), (57, .aload_n 0), (58, .getfield 24), (61, .aload_n 0), (62, .getfield 27), (65, .iload 4), (67, .iastore), (68, .aload_n 0), (69, .dup), (70, .getfield 27), (73, .iconst 1), (74, .iadd), (75, .putfield 27), (78, .return_)]
set_option maxRecDepth 100000 in
theorem ok_X1_join : jOk md_X1_join tb_X1_join := jOk_of (by decide +kernel)
def md_X1_pair : MD := (yX1_pair, cX1_pair, 3, none, 0, 0)
def tb_X1_pair : List (Nat × Instr) := [(0, .aload_n 0), (1, .iload_n 1), (2, .invokevirtual 34), (5, .ifCond .eq 45), (8, .aload_n 0), (9, .iload_n 2), (10, .invokevirtual 34), (13, .ifCond .eq 37), (16, .aload_n 0), (17, .getfield 21), (20, .iload_n 1), (21, .dup2), (22, .iaload), (23, .iconst 1), (24, .iload_n 2), (25, .ishl), (26, .ior), (27, .iastore), (28, .aload_n 0), (29, .getfield 21), (32, .iload_n 2), (33, .dup2), (34, .iaload), (35, .iconst 1), (36, .iload_n 1), (37, .ishl), (38, .ior), (39, .iastore), (40, .aload_n 0), (41, .dup), (42, .getfield 31), (45, .iconst 1), (46, .iadd), (47, .putfield 31), (50, .return_)]
set_option maxRecDepth 100000 in
theorem ok_X1_pair : jOk md_X1_pair tb_X1_pair := jOk_of (by decide +kernel)
def md_X1_everyone : MD := (yX1_everyone, cX1_everyone, 1, (some .int), 0, 0)
def tb_X1_everyone : List (Nat × Instr) := [(0, .iconst 1), (1, .aload_n 0), (2, .getfield 27), (5, .ishl), (6, .iconst 1), (7, .isub), (8, .ireturn)]
set_option maxRecDepth 100000 in
theorem ok_X1_everyone : jOk md_X1_everyone tb_X1_everyone := jOk_of (by decide +kernel)
def md_X1_kindOf : MD := (yX1_kindOf, cX1_kindOf, 2, (some .int), 0, 0)
def tb_X1_kindOf : List (Nat × Instr) := [(0, .aload_n 0), (1, .iload_n 1), (2, .invokevirtual 34), (5, .ifCond .eq 12), (8, .aload_n 0), (9, .getfield 9), (12, .iload_n 1), (13, .iaload), (14, .goto 4), (17, .iconst 0), (18, .ireturn)]
set_option maxRecDepth 100000 in
theorem ok_X1_kindOf : jOk md_X1_kindOf tb_X1_kindOf := jOk_of (by decide +kernel)
def md_X1_aimOf : MD := (yX1_aimOf, cX1_aimOf, 2, (some .int), 0, 0)
def tb_X1_aimOf : List (Nat × Instr) := [(0, .aload_n 0), (1, .iload_n 1), (2, .invokevirtual 34), (5, .ifCond .eq 12), (8, .aload_n 0), (9, .getfield 15), (12, .iload_n 1), (13, .iaload), (14, .goto 4), (17, .iconst 0), (18, .ireturn)]
set_option maxRecDepth 100000 in
theorem ok_X1_aimOf : jOk md_X1_aimOf tb_X1_aimOf := jOk_of (by decide +kernel)
def md_X1_zealOf : MD := (yX1_zealOf, cX1_zealOf, 2, (some .int), 0, 0)
def tb_X1_zealOf : List (Nat × Instr) := [(0, .aload_n 0), (1, .iload_n 1), (2, .invokevirtual 34), (5, .ifCond .eq 12), (8, .aload_n 0), (9, .getfield 18), (12, .iload_n 1), (13, .iaload), (14, .goto 4), (17, .iconst 0), (18, .ireturn)]
set_option maxRecDepth 100000 in
theorem ok_X1_zealOf : jOk md_X1_zealOf tb_X1_zealOf := jOk_of (by decide +kernel)
def md_X1_firstVictimOf : MD := (yX1_firstVictimOf, cX1_firstVictimOf, 2, (some .int), 0, 0)
def tb_X1_firstVictimOf : List (Nat × Instr) := [(0, .aload_n 0), (1, .iload_n 1), (2, .invokevirtual 34), (5, .ifCond .eq 12), (8, .aload_n 0), (9, .getfield 24), (12, .iload_n 1), (13, .iaload), (14, .goto 5), (17, .bipush (-9)), (19, .ireturn)]
set_option maxRecDepth 100000 in
theorem ok_X1_firstVictimOf : jOk md_X1_firstVictimOf tb_X1_firstVictimOf := jOk_of (by decide +kernel)
def md_X1_isOf : MD := (yX1_isOf, cX1_isOf, 4, (some .boolean), 0, 0)
def tb_X1_isOf : List (Nat × Instr) := [(0, .aload_n 0), (1, .iload_n 1), (2, .invokevirtual 38), (5, .istore_n 3), (6, .iload_n 3), (7, .iload_n 2), (8, .if_icmp .eq 23), (11, .iload_n 3), (12, .iconst 4), (13, .if_icmp .ne 8), (16, .iload_n 2), (17, .iconst 1), (18, .if_icmp .eq 13), (21, .iload_n 3), (22, .iconst 5), (23, .if_icmp .ne 12), (26, .iload_n 2), (27, .iconst 3), (28, .if_icmp .ne 7), (31, .iconst 1), (32, .goto 4), (35, .iconst 0), (36, .ireturn)]
set_option maxRecDepth 100000 in
theorem ok_X1_isOf : jOk md_X1_isOf tb_X1_isOf := jOk_of (by decide +kernel)
def md_X1_power : MD := (yX1_power, cX1_power, 3, (some .int), 0, 0)
def tb_X1_power : List (Nat × Instr) := [(0, .aload_n 0), (1, .iload_n 1), (2, .invokevirtual 42), (5, .istore_n 2), (6, .aload_n 0), (7, .iload_n 1), (8, .iconst 1), (9, .invokevirtual 45), (12, .ifCond .eq 6), (15, .iinc 2 1), (18, .aload_n 0), (19, .iload_n 1), (20, .iconst 4), (21, .invokevirtual 45), (24, .ifCond .eq 6), (27, .iinc 2 2), (30, .aload_n 0), (31, .iload_n 1), (32, .iconst 3), (33, .invokevirtual 45), (36, .ifCond .eq 7), (39, .iload_n 2), (40, .iconst 2), (41, .idiv), (42, .istore_n 2), (43, .aload_n 0), (44, .iload_n 1), (45, .iconst 5), (46, .invokevirtual 45), (49, .ifCond .eq 11), (52, .iconst 0), (53, .iload_n 2), (54, .iconst 1), (55, .isub), (56, .invokestatic 49), (59, .istore_n 2), (60, .iload_n 2), (61, .ireturn)]
set_option maxRecDepth 100000 in
theorem ok_X1_power : jOk md_X1_power tb_X1_power := jOk_of (by decide +kernel)
def md_X1_against : MD := (yX1_against, cX1_against, 4, (some .int), 0, 0)
def tb_X1_against : List (Nat × Instr) := [(0, .aload_n 0), (1, .iload_n 1), (2, .invokevirtual 55), (5, .iload_n 2), (6, .invokestatic 58), (9, .ifCond .eq 5), (12, .iconst 0), (13, .ireturn), (14, .aload_n 0), (15, .iload_n 1), (16, .invokevirtual 61), (19, .istore_n 3), (20, .aload_n 0), (21, .iload_n 2), (22, .iconst 2), (23, .invokevirtual 45), (26, .ifCond .eq 13), (29, .iconst 0), (30, .iload_n 3), (31, .iconst 1), (32, .isub), (33, .invokestatic 49), (36, .goto 4), (39, .iload_n 3), (40, .ireturn)]
set_option maxRecDepth 100000 in
theorem ok_X1_against : jOk md_X1_against tb_X1_against := jOk_of (by decide +kernel)
def md_X2_init : MD := (yX2_init, cX2_init, 2, none, 1, 60)
def tb_X2_init : List (Nat × Instr) := [(0, .aload_n 0), (1, .invokespecial 3), (4, .aload_n 0), (5, .iconst 0), (6, .iload_n 1), (7, .invokestatic 9), (10, .newarray .int), (12, .putfield 15), (15, .aload_n 0), (16, .iconst (-1)), (17, .putfield 21), (20, .return_)]
set_option maxRecDepth 100000 in
theorem ok_X2_init : jOk md_X2_init tb_X2_init := jOk_of (by decide +kernel)
def md_X2_isMissing : MD := (yX2_isMissing, cX2_isMissing, 1, (some .boolean), 0, 0)
def tb_X2_isMissing : List (Nat × Instr) := [(0, .aload_n 0), (1, .getfield 21), (4, .ifCond .ge 7), (7, .iconst 1), (8, .goto 4), (11, .iconst 0), (12, .ireturn)]
set_option maxRecDepth 100000 in
theorem ok_X2_isMissing : jOk md_X2_isMissing tb_X2_isMissing := jOk_of (by decide +kernel)
def md_X2_holds : MD := (yX2_holds, cX2_holds, 2, (some .boolean), 0, 0)
def tb_X2_holds : List (Nat × Instr) := [(0, .iload_n 1), (1, .ifCond .lt 24), (4, .iload_n 1), (5, .aload_n 0), (6, .getfield 21), (9, .if_icmp .ge 16), (12, .iload_n 1), (13, .aload_n 0), (14, .getfield 15), (17, .arraylength), (18, .if_icmp .ge 7), (21, .iconst 1), (22, .goto 4), (25, .iconst 0), (26, .ireturn)]
set_option maxRecDepth 100000 in
theorem ok_X2_holds : jOk md_X2_holds tb_X2_holds := jOk_of (by decide +kernel)
def md_X2_holdsSpan : MD := (yX2_holdsSpan, cX2_holdsSpan, 3, (some .boolean), 0, 0)
def tb_X2_holdsSpan : List (Nat × Instr) := [(0, .iload_n 1), (1, .ifCond .lt 33), (4, .iload_n 2), (5, .ifCond .lt 29), (8, .iload_n 1), (9, .i2l), (10, .iload_n 2), (11, .i2l), (12, .ladd), (13, .aload_n 0), (14, .getfield 21), (17, .aload_n 0), (18, .getfield 15), (21, .arraylength), (22, .invokestatic 25), (25, .i2l), (26, .lcmp), (27, .ifCond .gt 7), (30, .iconst 1), (31, .goto 4), (34, .iconst 0), (35, .ireturn)]
set_option maxRecDepth 100000 in
theorem ok_X2_holdsSpan : jOk md_X2_holdsSpan tb_X2_holdsSpan := jOk_of (by decide +kernel)
def md_X2_get : MD := (yX2_get, cX2_get, 2, (some .int), 0, 0)
def tb_X2_get : List (Nat × Instr) := [(0, .aload_n 0), (1, .iload_n 1), (2, .invokevirtual 28), (5, .ifCond .eq 12), (8, .aload_n 0), (9, .getfield 15), (12, .iload_n 1), (13, .iaload), (14, .goto 4), (17, .iconst 0), (18, .ireturn)]
set_option maxRecDepth 100000 in
theorem ok_X2_get : jOk md_X2_get tb_X2_get := jOk_of (by decide +kernel)
def md_X2_set : MD := (yX2_set, cX2_set, 3, none, 0, 0)
def tb_X2_set : List (Nat × Instr) := [(0, .aload_n 0), (1, .iload_n 1), (2, .invokevirtual 28), (5, .ifCond .eq 10), (8, .aload_n 0), (9, .getfield 15), (12, .iload_n 1), (13, .iload_n 2), (14, .iastore), (15, .return_)]
set_option maxRecDepth 100000 in
theorem ok_X2_set : jOk md_X2_set tb_X2_set := jOk_of (by decide +kernel)
def md_X2_renew : MD := (yX2_renew, cX2_renew, 4, none, 0, 0)
def tb_X2_renew : List (Nat × Instr) := [(0, .aload_n 0), (1, .iconst 0), (2, .iload_n 1), (3, .aload_n 0), (4, .getfield 15), (7, .arraylength), (8, .invokestatic 25), (11, .invokestatic 9), (14, .putfield 21), (17, .iconst 0), (18, .istore_n 3), (19, .iload_n 3), (20, .aload_n 0), (21, .getfield 21), (24, .if_icmp .ge 15), (27, .aload_n 0), (28, .iload_n 3), (29, .iload_n 2), (30, .invokevirtual 32), (33, .iinc 3 1), (36, .goto (-17)), (39, .return_)]
set_option maxRecDepth 100000 in
theorem ok_X2_renew : jOk md_X2_renew tb_X2_renew := jOk_of (by decide +kernel)
def md_X2_discard : MD := (yX2_discard, cX2_discard, 1, none, 0, 0)
def tb_X2_discard : List (Nat × Instr) := [(0, .aload_n 0), (1, .iconst (-1)), (2, .putfield 21), (5, .return_)]
set_option maxRecDepth 100000 in
theorem ok_X2_discard : jOk md_X2_discard tb_X2_discard := jOk_of (by decide +kernel)
def md_X2_take : MD := (yX2_take, cX2_take, 5, none, 0, 0)
def tb_X2_take : List (Nat × Instr) := [(0, .aload_n 1), (1, .iload_n 2), (2, .iload 4), (4, .invokevirtual 36), (7, .ifCond .eq 28), (10, .aload_n 0), (11, .iload_n 3), (12, .iload 4), (14, .invokevirtual 36), (17, .ifCond .eq 18), (20, .aload_n 1), (21, .getfield 15), (24, .iload_n 2), (25, .aload_n 0), (26, .getfield 15), (29, .iload_n 3), (30, .iload 4), (32, .invokestatic 40), (35, .return_)]
set_option maxRecDepth 100000 in
theorem ok_X2_take : jOk md_X2_take tb_X2_take := jOk_of (by decide +kernel)
def md_X2_meanCut : MD := (yX2_meanCut, cX2_meanCut, 4, (some .int), 0, 0)
def tb_X2_meanCut : List (Nat × Instr) := [(0, .lconst 0), (1, .lstore_n 1), (2, .iconst 0), (3, .istore_n 3), (4, .iload_n 3), (5, .aload_n 0), (6, .getfield 21), (9, .if_icmp .ge 18), (12, .lload_n 1), (13, .aload_n 0), (14, .iload_n 3), (15, .invokevirtual 46), (18, .i2l), (19, .ladd), (20, .lstore_n 1), (21, .iinc 3 1), (24, .goto (-20)), (27, .aload_n 0), (28, .getfield 21), (31, .ifCond .le 14), (34, .lload_n 1), (35, .aload_n 0), (36, .getfield 21), (39, .i2l), (40, .ldiv), (41, .l2i), (42, .goto 4), (45, .iconst 0), (46, .ireturn)]
set_option maxRecDepth 100000 in
theorem ok_X2_meanCut : jOk md_X2_meanCut tb_X2_meanCut := jOk_of (by decide +kernel)
def md_X2_mixInto : MD := (yX2_mixInto, cX2_mixInto, 6, (some .long), 0, 0)
def tb_X2_mixInto : List (Nat × Instr) := [(0, .ldc2_w 50), (3, .lload_n 1), (4, .lmul), (5, .aload_n 0), (6, .getfield 21), (9, .i2l), (10, .ladd), (11, .lstore_n 3), (12, .iconst 0), (13, .istore 5), (15, .iload 5), (17, .aload_n 0), (18, .getfield 21), (21, .if_icmp .ge 23), (24, .ldc2_w 50), (27, .lload_n 3), (28, .lmul), (29, .aload_n 0), (30, .iload 5), (32, .invokevirtual 46), (35, .i2l), (36, .ladd), (37, .lstore_n 3), (38, .iinc 5 1), (41, .goto (-26)), (44, .lload_n 3), (45, .lreturn)]
set_option maxRecDepth 100000 in
theorem ok_X2_mixInto : jOk md_X2_mixInto tb_X2_mixInto := jOk_of (by decide +kernel)
def md_X3_init : MD := (yX3_init, cX3_init, 1, none, 1, 6)
def tb_X3_init : List (Nat × Instr) := [(0, .aload_n 0), (1, .invokespecial 3), (4, .aload_n 0), (5, .bipush 6), (7, .newarray .int), (9, .putfield 9), (12, .return_)]
set_option maxRecDepth 100000 in
theorem ok_X3_init : jOk md_X3_init tb_X3_init := jOk_of (by decide +kernel)
def md_X3_faultOfFoes : MD := (yX3_faultOfFoes, cX3_faultOfFoes, 5, (some .int), 0, 0)
def tb_X3_faultOfFoes : List (Nat × Instr) := [(0, .iconst 0), (1, .istore_n 2), (2, .iconst 0), (3, .istore_n 3), (4, .iload_n 3), (5, .aload_n 1), (6, .getfield 37), (9, .if_icmp .ge 70), (12, .iload_n 3), (13, .bipush 6), (15, .if_icmp .ge 64), (18, .aload_n 1), (19, .iload_n 3), (20, .invokevirtual 77), (23, .istore 4), (25, .iload 4), (27, .bipush (-9)), (29, .if_icmp .ne 6), (32, .goto 41), (35, .iload 4), (37, .iload_n 3), (38, .if_icmp .eq 21), (41, .aload_n 1), (42, .iload 4), (44, .invokevirtual 80), (47, .ifCond .eq 12), (50, .iload_n 2), (51, .iload 4), (53, .invokestatic 69), (56, .ifCond .eq 10), (59, .aload_n 0), (60, .getfield 9), (63, .iload_n 3), (64, .iaload), (65, .ireturn), (66, .iload_n 2), (67, .iconst 1), (68, .iload 4), (70, .ishl), (71, .ior), (72, .istore_n 2), (73, .iinc 3 1), (76, .goto (-72)), (79, .bipush (-9)), (81, .ireturn)]
set_option maxRecDepth 100000 in
theorem ok_X3_faultOfFoes : jOk md_X3_faultOfFoes tb_X3_faultOfFoes := jOk_of (by decide +kernel)
def md_X3_figure : MD := (yX3_figure, cX3_figure, 5, (some .int), 0, 0)
def tb_X3_figure : List (Nat × Instr) := [(0, .aload_n 0), (1, .iload_n 1), (2, .invokevirtual 58), (5, .ifCond .ne 5), (8, .iconst (-1)), (9, .ireturn), (10, .aload_n 0), (11, .iload_n 1), (12, .invokevirtual 30), (15, .bipush 48), (17, .isub), (18, .istore 4), (20, .iload 4), (22, .iload_n 2), (23, .if_icmp .lt 14), (26, .iload 4), (28, .iload_n 3), (29, .if_icmp .gt 8), (32, .iload 4), (34, .goto 4), (37, .iconst (-1)), (38, .ireturn)]
set_option maxRecDepth 100000 in
theorem ok_X3_figure : jOk md_X3_figure tb_X3_figure := jOk_of (by decide +kernel)
def md_X3_readLove : MD := (yX3_readLove, cX3_readLove, 6, (some .int), 0, 0)
def tb_X3_readLove : List (Nat × Instr) := [(0, .aload_n 3), (1, .getfield 37), (4, .iconst 2), (5, .if_icmp .lt 12), (8, .aload_n 3), (9, .getfield 51), (12, .bipush 8), (14, .if_icmp .lt 5), (17, .iload_n 2), (18, .ireturn), (19, .aload_n 1), (20, .iload_n 2), (21, .iconst 1), (22, .iadd), (23, .iconst 0), (24, .aload_n 3), (25, .getfield 37), (28, .iconst 1), (29, .isub), (30, .invokestatic 54), (33, .istore 4), (35, .iload 4), (37, .ifCond .ge 7), (40, .iload_n 2), (41, .iconst 1), (42, .iadd), (43, .ireturn), (44, .aload_n 1), (45, .iload_n 2), (46, .iconst 2), (47, .iadd), (48, .iconst 0), (49, .aload_n 3), (50, .getfield 37), (53, .iconst 1), (54, .isub), (55, .invokestatic 54), (58, .istore 5), (60, .iload 5), (62, .ifCond .lt 24), (65, .iload 5), (67, .iload 4), (69, .if_icmp .eq 17), (72, .aload_n 3), (73, .iload 4), (75, .invokevirtual 66), (78, .iload 5), (80, .invokestatic 69), (83, .ifCond .eq 7), (86, .iload_n 2), (87, .iconst 2), (88, .iadd), (89, .ireturn), (90, .aload_n 3), (91, .iload 4), (93, .iload 5), (95, .invokevirtual 73), (98, .bipush (-9)), (100, .ireturn)]
set_option maxRecDepth 100000 in
theorem ok_X3_readLove : jOk md_X3_readLove tb_X3_readLove := jOk_of (by decide +kernel)
def md_X3_kindBy : MD := (yX3_kindBy, cX3_kindBy, 2, (some .int), 0, 0)
def tb_X3_kindBy : List (Nat × Instr) := [(0, .iconst 0), (1, .istore_n 1), (2, .iload_n 1), (3, .getstatic 83), (6, .arraylength), (7, .if_icmp .ge 20), (10, .getstatic 83), (13, .iload_n 1), (14, .iaload), (15, .iload_n 0), (16, .if_icmp .ne 5), (19, .iload_n 1), (20, .ireturn), (21, .iinc 1 1), (24, .goto (-22)), (27, .iconst (-1)), (28, .ireturn)]
set_option maxRecDepth 100000 in
theorem ok_X3_kindBy : jOk md_X3_kindBy tb_X3_kindBy := jOk_of (by decide +kernel)
def md_X3_readPerson : MD := (yX3_readPerson, cX3_readPerson, 9, (some .int), 0, 0)
def tb_X3_readPerson : List (Nat × Instr) := [(0, .aload_n 1), (1, .iload_n 2), (2, .invokevirtual 30), (5, .invokestatic 48), (8, .istore 4), (10, .iload 4), (12, .ifCond .lt 19), (15, .aload_n 3), (16, .getfield 51), (19, .ifCond .gt 12), (22, .aload_n 3), (23, .getfield 37), (26, .bipush 6), (28, .if_icmp .lt 5), (31, .iload_n 2), (32, .ireturn), (33, .aload_n 1), (34, .iload_n 2), (35, .iconst 1), (36, .iadd), (37, .iconst 1), (38, .bipush 9), (40, .invokestatic 54), (43, .istore 5), (45, .iload 5), (47, .ifCond .ge 7), (50, .iload_n 2), (51, .iconst 1), (52, .iadd), (53, .ireturn), (54, .aload_n 1), (55, .iload_n 2), (56, .iconst 2), (57, .iadd), (58, .iconst 0), (59, .iconst 5), (60, .invokestatic 54), (63, .istore 6), (65, .iload 6), (67, .ifCond .ge 7), (70, .iload_n 2), (71, .iconst 2), (72, .iadd), (73, .ireturn), (74, .aload_n 1), (75, .iload_n 2), (76, .iconst 3), (77, .iadd), (78, .invokevirtual 58), (81, .ifCond .eq 19), (84, .aload_n 1), (85, .iload_n 2), (86, .iconst 3), (87, .iadd), (88, .invokevirtual 30), (91, .bipush 45), (93, .if_icmp .ne 7), (96, .iconst 1), (97, .goto 4), (100, .iconst 0), (101, .istore 7), (103, .iload 7), (105, .ifCond .eq 8), (108, .bipush (-9)), (110, .goto 13), (113, .aload_n 1), (114, .iload_n 2), (115, .iconst 3), (116, .iadd), (117, .iconst 0), (118, .bipush 9), (120, .invokestatic 54), (123, .istore 8), (125, .iload 7), (127, .ifCond .ne 12), (130, .iload 8), (132, .ifCond .ge 7), (135, .iload_n 2), (136, .iconst 3), (137, .iadd), (138, .ireturn), (139, .aload_n 3), (140, .getfield 37), (143, .ifCond .lt 24), (146, .aload_n 3), (147, .getfield 37), (150, .bipush 6), (152, .if_icmp .ge 15), (155, .aload_n 0), (156, .getfield 9), (159, .aload_n 3), (160, .getfield 37), (163, .iload_n 2), (164, .iconst 3), (165, .iadd), (166, .iastore), (167, .aload_n 3), (168, .iload 4), (170, .iload 5), (172, .iload 6), (174, .iload 8), (176, .invokevirtual 62), (179, .bipush (-9)), (181, .ireturn)]
set_option maxRecDepth 100000 in
theorem ok_X3_readPerson : jOk md_X3_readPerson tb_X3_readPerson := jOk_of (by decide +kernel)
def md_X3_readItem : MD := (yX3_readItem, cX3_readItem, 4, (some .int), 0, 0)
def tb_X3_readItem : List (Nat × Instr) := [(0, .aload_n 1), (1, .iload_n 2), (2, .invokevirtual 30), (5, .bipush 32), (7, .if_icmp .ne 6), (10, .bipush (-9)), (12, .ireturn), (13, .aload_n 1), (14, .iload_n 2), (15, .invokevirtual 30), (18, .bipush 111), (20, .if_icmp .ne 13), (23, .aload_n 0), (24, .aload_n 1), (25, .iload_n 2), (26, .aload_n 3), (27, .invokevirtual 42), (30, .goto 10), (33, .aload_n 0), (34, .aload_n 1), (35, .iload_n 2), (36, .aload_n 3), (37, .invokevirtual 45), (40, .ireturn)]
set_option maxRecDepth 100000 in
theorem ok_X3_readItem : jOk md_X3_readItem tb_X3_readItem := jOk_of (by decide +kernel)
def md_X3_widthOf : MD := (yX3_widthOf, cX3_widthOf, 1, (some .int), 0, 0)
def tb_X3_widthOf : List (Nat × Instr) := [(0, .iload_n 0), (1, .bipush 32), (3, .if_icmp .ne 5), (6, .iconst 1), (7, .ireturn), (8, .iload_n 0), (9, .bipush 111), (11, .if_icmp .ne 7), (14, .iconst 3), (15, .goto 4), (18, .iconst 4), (19, .ireturn)]
set_option maxRecDepth 100000 in
theorem ok_X3_widthOf : jOk md_X3_widthOf tb_X3_widthOf := jOk_of (by decide +kernel)
def md_X3_read : MD := (yX3_read, cX3_read, 5, (some .int), 0, 0)
def tb_X3_read : List (Nat × Instr) := [(0, .aload_n 2), (1, .invokevirtual 15), (4, .iconst 0), (5, .istore_n 3), (6, .iload_n 3), (7, .aload_n 1), (8, .getfield 20), (11, .if_icmp .ge 36), (14, .aload_n 0), (15, .aload_n 1), (16, .iload_n 3), (17, .aload_n 2), (18, .invokevirtual 26), (21, .istore 4), (23, .iload 4), (25, .bipush (-9)), (27, .if_icmp .eq 6), (30, .iload 4), (32, .ireturn), (33, .iload_n 3), (34, .aload_n 1), (35, .iload_n 3), (36, .invokevirtual 30), (39, .invokestatic 34), (42, .iadd), (43, .istore_n 3), (44, .goto (-38)), (47, .aload_n 2), (48, .getfield 37), (51, .iconst 2), (52, .if_icmp .ge 10), (55, .aload_n 1), (56, .getfield 20), (59, .goto 8), (62, .aload_n 0), (63, .aload_n 2), (64, .invokevirtual 38), (67, .ireturn)]
set_option maxRecDepth 100000 in
theorem ok_X3_read : jOk md_X3_read tb_X3_read := jOk_of (by decide +kernel)
def md_X4_init : MD := (yX4_init, cX4_init, 1, none, 3, 738)
def tb_X4_init : List (Nat × Instr) := [(0, .aload_n 0), (1, .invokespecial 3), (4, .aload_n 0), (5, .sipush 246), (8, .newarray .int), (10, .putfield 9), (13, .aload_n 0), (14, .sipush 246), (17, .newarray .int), (19, .putfield 15), (22, .aload_n 0), (23, .sipush 246), (26, .newarray .int), (28, .putfield 18), (31, .return_)]
set_option maxRecDepth 100000 in
theorem ok_X4_init : jOk md_X4_init tb_X4_init := jOk_of (by decide +kernel)
def md_X4_slot : MD := (yX4_slot, cX4_slot, 3, (some .int), 0, 0)
def tb_X4_slot : List (Nat × Instr) := [(0, .aload_n 0), (1, .getfield 21), (4, .bipush 6), (6, .imul), (7, .iload_n 1), (8, .iadd), (9, .istore_n 2), (10, .iload_n 2), (11, .ifCond .lt 14), (14, .iload_n 2), (15, .sipush 246), (18, .if_icmp .ge 7), (21, .iload_n 2), (22, .goto 4), (25, .iconst 0), (26, .ireturn)]
set_option maxRecDepth 100000 in
theorem ok_X4_slot : jOk md_X4_slot tb_X4_slot := jOk_of (by decide +kernel)
def md_X4_setDeeds : MD := (yX4_setDeeds, cX4_setDeeds, 3, none, 0, 0)
def tb_X4_setDeeds : List (Nat × Instr) := [(0, .aload_n 0), (1, .getfield 15), (4, .aload_n 0), (5, .iload_n 1), (6, .invokevirtual 44), (9, .iload_n 2), (10, .iastore), (11, .return_)]
set_option maxRecDepth 100000 in
theorem ok_X4_setDeeds : jOk md_X4_setDeeds tb_X4_setDeeds := jOk_of (by decide +kernel)
def md_X4_setVictim : MD := (yX4_setVictim, cX4_setVictim, 3, none, 0, 0)
def tb_X4_setVictim : List (Nat × Instr) := [(0, .aload_n 0), (1, .getfield 9), (4, .aload_n 0), (5, .iload_n 1), (6, .invokevirtual 44), (9, .iload_n 2), (10, .iastore), (11, .return_)]
set_option maxRecDepth 100000 in
theorem ok_X4_setVictim : jOk md_X4_setVictim tb_X4_setVictim := jOk_of (by decide +kernel)
def md_X4_begin : MD := (yX4_begin, cX4_begin, 3, none, 0, 0)
def tb_X4_begin : List (Nat × Instr) := [(0, .aload_n 0), (1, .iconst 0), (2, .putfield 21), (5, .iconst 0), (6, .istore_n 2), (7, .iload_n 2), (8, .bipush 6), (10, .if_icmp .ge 32), (13, .aload_n 0), (14, .iload_n 2), (15, .aload_n 1), (16, .iload_n 2), (17, .invokevirtual 25), (20, .invokevirtual 31), (23, .aload_n 0), (24, .iload_n 2), (25, .iconst 0), (26, .invokevirtual 35), (29, .aload_n 0), (30, .getfield 18), (33, .iload_n 2), (34, .iconst 0), (35, .iastore), (36, .iinc 2 1), (39, .goto (-32)), (42, .return_)]
set_option maxRecDepth 100000 in
theorem ok_X4_begin : jOk md_X4_begin tb_X4_begin := jOk_of (by decide +kernel)
def md_X4_beginTurn : MD := (yX4_beginTurn, cX4_beginTurn, 3, (some .boolean), 0, 0)
def tb_X4_beginTurn : List (Nat × Instr) := [(0, .aload_n 0), (1, .getfield 21), (4, .ifCond .lt 12), (7, .aload_n 0), (8, .getfield 21), (11, .bipush 40), (13, .if_icmp .lt 5), (16, .iconst 0), (17, .ireturn), (18, .aload_n 0), (19, .getfield 21), (22, .bipush 6), (24, .imul), (25, .istore_n 1), (26, .iload_n 1), (27, .bipush 6), (29, .iadd), (30, .istore_n 2), (31, .aload_n 0), (32, .getfield 9), (35, .iload_n 1), (36, .aload_n 0), (37, .getfield 9), (40, .iload_n 2), (41, .bipush 6), (43, .invokestatic 38), (46, .aload_n 0), (47, .getfield 15), (50, .iload_n 1), (51, .aload_n 0), (52, .getfield 15), (55, .iload_n 2), (56, .bipush 6), (58, .invokestatic 38), (61, .aload_n 0), (62, .getfield 18), (65, .iload_n 1), (66, .aload_n 0), (67, .getfield 18), (70, .iload_n 2), (71, .bipush 6), (73, .invokestatic 38), (76, .aload_n 0), (77, .dup), (78, .getfield 21), (81, .iconst 1), (82, .iadd), (83, .putfield 21), (86, .iconst 1), (87, .ireturn)]
set_option maxRecDepth 100000 in
theorem ok_X4_beginTurn : jOk md_X4_beginTurn tb_X4_beginTurn := jOk_of (by decide +kernel)
def md_X4_backTo : MD := (yX4_backTo, cX4_backTo, 3, (some .int), 0, 0)
def tb_X4_backTo : List (Nat × Instr) := [(0, .aload_n 0), (1, .getfield 21), (4, .iload_n 1), (5, .isub), (6, .istore_n 2), (7, .aload_n 0), (8, .iload_n 1), (9, .putfield 21), (12, .iload_n 2), (13, .ireturn)]
set_option maxRecDepth 100000 in
theorem ok_X4_backTo : jOk md_X4_backTo tb_X4_backTo := jOk_of (by decide +kernel)
def md_X4_take : MD := (yX4_take, cX4_take, 2, none, 0, 0)
def tb_X4_take : List (Nat × Instr) := [(0, .aload_n 0), (1, .aload_n 1), (2, .getfield 21), (5, .putfield 21), (8, .aload_n 1), (9, .getfield 9), (12, .iconst 0), (13, .aload_n 0), (14, .getfield 9), (17, .iconst 0), (18, .sipush 246), (21, .invokestatic 38), (24, .aload_n 1), (25, .getfield 15), (28, .iconst 0), (29, .aload_n 0), (30, .getfield 15), (33, .iconst 0), (34, .sipush 246), (37, .invokestatic 38), (40, .aload_n 1), (41, .getfield 18), (44, .iconst 0), (45, .aload_n 0), (46, .getfield 18), (49, .iconst 0), (50, .sipush 246), (53, .invokestatic 38), (56, .return_)]
set_option maxRecDepth 100000 in
theorem ok_X4_take : jOk md_X4_take tb_X4_take := jOk_of (by decide +kernel)
def md_X4_victimOf : MD := (yX4_victimOf, cX4_victimOf, 2, (some .int), 0, 0)
def tb_X4_victimOf : List (Nat × Instr) := [(0, .aload_n 0), (1, .getfield 9), (4, .aload_n 0), (5, .iload_n 1), (6, .invokevirtual 44), (9, .iaload), (10, .ireturn)]
set_option maxRecDepth 100000 in
theorem ok_X4_victimOf : jOk md_X4_victimOf tb_X4_victimOf := jOk_of (by decide +kernel)
def md_X4_deedsOf : MD := (yX4_deedsOf, cX4_deedsOf, 2, (some .int), 0, 0)
def tb_X4_deedsOf : List (Nat × Instr) := [(0, .aload_n 0), (1, .getfield 15), (4, .aload_n 0), (5, .iload_n 1), (6, .invokevirtual 44), (9, .iaload), (10, .ireturn)]
set_option maxRecDepth 100000 in
theorem ok_X4_deedsOf : jOk md_X4_deedsOf tb_X4_deedsOf := jOk_of (by decide +kernel)
def md_X4_finesOf : MD := (yX4_finesOf, cX4_finesOf, 2, (some .int), 0, 0)
def tb_X4_finesOf : List (Nat × Instr) := [(0, .aload_n 0), (1, .getfield 18), (4, .aload_n 0), (5, .iload_n 1), (6, .invokevirtual 44), (9, .iaload), (10, .ireturn)]
set_option maxRecDepth 100000 in
theorem ok_X4_finesOf : jOk md_X4_finesOf tb_X4_finesOf := jOk_of (by decide +kernel)
def md_X4_fine : MD := (yX4_fine, cX4_fine, 2, none, 0, 0)
def tb_X4_fine : List (Nat × Instr) := [(0, .aload_n 0), (1, .getfield 18), (4, .aload_n 0), (5, .iload_n 1), (6, .invokevirtual 44), (9, .dup2), (10, .iaload), (11, .iconst 1), (12, .iadd), (13, .iastore), (14, .return_)]
set_option maxRecDepth 100000 in
theorem ok_X4_fine : jOk md_X4_fine tb_X4_fine := jOk_of (by decide +kernel)
end
section
def md_X4_foeOf : MD := (yX4_foeOf, cX4_foeOf, 3, (some .int), 0, 0)
def tb_X4_foeOf : List (Nat × Instr) := [(0, .iconst 0), (1, .istore_n 2), (2, .iload_n 2), (3, .bipush 6), (5, .if_icmp .ge 24), (8, .iload_n 1), (9, .ifCond .lt 14), (12, .aload_n 0), (13, .iload_n 2), (14, .invokevirtual 47), (17, .iload_n 1), (18, .if_icmp .ne 5), (21, .iload_n 2), (22, .ireturn), (23, .iinc 2 1), (26, .goto (-24)), (29, .bipush (-9)), (31, .ireturn)]
set_option maxRecDepth 100000 in
theorem ok_X4_foeOf : jOk md_X4_foeOf tb_X4_foeOf := jOk_of (by decide +kernel)
def md_X4_victimSet : MD := (yX4_victimSet, cX4_victimSet, 4, (some .int), 0, 0)
def tb_X4_victimSet : List (Nat × Instr) := [(0, .iconst 0), (1, .istore_n 1), (2, .iconst 0), (3, .istore_n 2), (4, .iload_n 2), (5, .bipush 6), (7, .if_icmp .ge 25), (10, .aload_n 0), (11, .iload_n 2), (12, .invokevirtual 47), (15, .istore_n 3), (16, .iload_n 3), (17, .ifCond .lt 9), (20, .iload_n 1), (21, .iconst 1), (22, .iload_n 3), (23, .ishl), (24, .ior), (25, .istore_n 1), (26, .iinc 2 1), (29, .goto (-25)), (32, .iload_n 1), (33, .ireturn)]
set_option maxRecDepth 100000 in
theorem ok_X4_victimSet : jOk md_X4_victimSet tb_X4_victimSet := jOk_of (by decide +kernel)
def md_X5_init : MD := (yX5_init, cX5_init, 2, none, 59, 4093)
def tb_X5_init : List (Nat × Instr) := [(0, .aload_n 0), (1, .invokespecial 3), (4, .aload_n 0), (5, .bipush 6), (7, .anewarray 9), (10, .putfield 11), (13, .aload_n 0), (14, .iconst 4), (15, .anewarray 9), (18, .putfield 15), (21, .aload_n 0), (22, .new 18), (25, .dup), (26, .invokespecial 20), (29, .putfield 21), (32, .aload_n 0), (33, .new 25), (36, .dup), (37, .invokespecial 27), (40, .putfield 28), (43, .aload_n 0), (44, .iconst 3), (45, .anewarray 25), (48, .putfield 32), (51, .aload_n 0), (52, .new 36), (55, .dup), (56, .invokespecial 38), (59, .putfield 39), (62, .aload_n 0), (63, .bipush 6), (65, .newarray .int), (67, .putfield 43), (70, .aload_n 0), (71, .bipush 6), (73, .newarray .int), (75, .putfield 47), (78, .aload_n 0), (79, .new 50), (82, .dup), (83, .invokespecial 52), (86, .putfield 53), (89, .aload_n 0), (90, .new 50), (93, .dup), (94, .invokespecial 52), (97, .putfield 57), (100, .iconst 0), (101, .istore_n 1), (102, .iload_n 1), (103, .bipush 6), (105, .if_icmp .ge 24), (108, .aload_n 0), (109, .getfield 11), (112, .iload_n 1), (113, .new 9), (116, .dup), (117, .bipush 40), (119, .invokespecial 60), (122, .aastore), (123, .iinc 1 1), (126, .goto (-24)), (129, .iconst 0), (130, .istore_n 1), (131, .iload_n 1), (132, .iconst 4), (133, .if_icmp .ge 24), (136, .aload_n 0), (137, .getfield 15), (140, .iload_n 1), (141, .new 9), (144, .dup), (145, .bipush 60), (147, .invokespecial 60), (150, .aastore), (151, .iinc 1 1), (154, .goto (-23)), (157, .iconst 0), (158, .istore_n 1), (159, .iload_n 1), (160, .iconst 3), (161, .if_icmp .ge 22), (164, .aload_n 0), (165, .getfield 32), (168, .iload_n 1), (169, .new 25), (172, .dup), (173, .invokespecial 27), (176, .aastore), (177, .iinc 1 1), (180, .goto (-21)), (183, .aload_n 0), (184, .getfield 28), (187, .aload_n 0), (188, .getfield 53), (191, .invokevirtual 63), (194, .aload_n 0), (195, .lconst 1), (196, .putfield 67), (199, .return_)]
set_option maxRecDepth 100000 in
theorem ok_X5_init : jOk md_X5_init tb_X5_init := jOk_of (by decide +kernel)
def md_X5_find : MD := (yX5_find, cX5_find, 2, (some .int), 0, 0)
def tb_X5_find : List (Nat × Instr) := [(0, .iload_n 1), (1, .iconst 1), (2, .if_icmp .lt 23), (5, .iload_n 1), (6, .iconst 5), (7, .if_icmp .gt 18), (10, .aload_n 0), (11, .iload_n 1), (12, .putfield 301), (15, .aload_n 0), (16, .getfield 47), (19, .iload_n 1), (20, .dup2), (21, .iaload), (22, .iconst 1), (23, .iadd), (24, .iastore), (25, .bipush (-3)), (27, .ireturn)]
set_option maxRecDepth 100000 in
theorem ok_X5_find : jOk md_X5_find tb_X5_find := jOk_of (by decide +kernel)
def md_X5_lineAt : MD := (yX5_lineAt, cX5_lineAt, 2, (some (.object "EnemyByLot$Line")), 0, 0)
def tb_X5_lineAt : List (Nat × Instr) := [(0, .iload_n 1), (1, .ifCond .lt 15), (4, .iload_n 1), (5, .aload_n 0), (6, .arraylength), (7, .if_icmp .ge 9), (10, .aload_n 0), (11, .iload_n 1), (12, .aaload), (13, .goto 4), (16, .aconst_null), (17, .areturn)]
set_option maxRecDepth 100000 in
theorem ok_X5_lineAt : jOk md_X5_lineAt tb_X5_lineAt := jOk_of (by decide +kernel)
def md_X5_row : MD := (yX5_row, cX5_row, 4, (some .int), 0, 0)
def tb_X5_row : List (Nat × Instr) := [(0, .aload_n 0), (1, .getfield 11), (4, .iload_n 1), (5, .invokestatic 71), (8, .astore_n 3), (9, .aload_n 3), (10, .ifnull 9), (13, .iload_n 2), (14, .bipush 40), (16, .if_icmp .le 5), (19, .iconst (-1)), (20, .ireturn), (21, .iload_n 2), (22, .ifCond .ge 9), (25, .aload_n 0), (26, .iconst 5), (27, .invokevirtual 75), (30, .ireturn), (31, .aload_n 3), (32, .iload_n 2), (33, .iconst 0), (34, .invokevirtual 79), (37, .iload_n 2), (38, .ireturn)]
set_option maxRecDepth 100000 in
theorem ok_X5_row : jOk md_X5_row tb_X5_row := jOk_of (by decide +kernel)
def md_X5_refusePlace : MD := (yX5_refusePlace, cX5_refusePlace, 3, (some .int), 0, 0)
def tb_X5_refusePlace : List (Nat × Instr) := [(0, .aload_n 1), (1, .invokevirtual 97), (4, .ifCond .eq 9), (7, .aload_n 0), (8, .iconst 1), (9, .invokevirtual 75), (12, .ireturn), (13, .aload_n 1), (14, .iload_n 2), (15, .invokevirtual 315), (18, .ifCond .eq 7), (21, .iconst 0), (22, .goto 8), (25, .aload_n 0), (26, .iconst 2), (27, .invokevirtual 75), (30, .ireturn)]
set_option maxRecDepth 100000 in
theorem ok_X5_refusePlace : jOk md_X5_refusePlace tb_X5_refusePlace := jOk_of (by decide +kernel)
def md_X5_lay : MD := (yX5_lay, cX5_lay, 6, (some .int), 0, 0)
def tb_X5_lay : List (Nat × Instr) := [(0, .aload_n 0), (1, .getfield 11), (4, .iload_n 1), (5, .invokestatic 71), (8, .astore 4), (10, .aload 4), (12, .ifnonnull 5), (15, .iconst (-1)), (16, .ireturn), (17, .aload_n 0), (18, .aload 4), (20, .iload_n 2), (21, .invokevirtual 83), (24, .istore 5), (26, .iload 5), (28, .ifCond .eq 6), (31, .iload 5), (33, .ireturn), (34, .aload_n 0), (35, .aload 4), (37, .iload_n 2), (38, .invokevirtual 87), (41, .putfield 90), (44, .aload 4), (46, .iload_n 2), (47, .iload_n 3), (48, .invokevirtual 94), (51, .iconst 1), (52, .ireturn)]
set_option maxRecDepth 100000 in
theorem ok_X5_lay : jOk md_X5_lay tb_X5_lay := jOk_of (by decide +kernel)
def md_X5_at : MD := (yX5_at, cX5_at, 5, (some .int), 0, 0)
def tb_X5_at : List (Nat × Instr) := [(0, .aload_n 0), (1, .getfield 11), (4, .iload_n 1), (5, .invokestatic 71), (8, .astore_n 3), (9, .aload_n 3), (10, .ifnonnull 5), (13, .iconst (-1)), (14, .ireturn), (15, .aload_n 0), (16, .aload_n 3), (17, .iload_n 2), (18, .invokevirtual 83), (21, .istore 4), (23, .iload 4), (25, .ifCond .eq 6), (28, .iload 4), (30, .ireturn), (31, .aload_n 0), (32, .aload_n 3), (33, .iload_n 2), (34, .invokevirtual 87), (37, .putfield 90), (40, .iconst 1), (41, .ireturn)]
set_option maxRecDepth 100000 in
theorem ok_X5_at : jOk md_X5_at tb_X5_at := jOk_of (by decide +kernel)
def md_X5_tear : MD := (yX5_tear, cX5_tear, 3, (some .int), 0, 0)
def tb_X5_tear : List (Nat × Instr) := [(0, .aload_n 0), (1, .getfield 11), (4, .iload_n 1), (5, .invokestatic 71), (8, .astore_n 2), (9, .aload_n 2), (10, .ifnonnull 5), (13, .iconst (-1)), (14, .ireturn), (15, .aload_n 2), (16, .invokevirtual 97), (19, .ifCond .eq 9), (22, .aload_n 0), (23, .iconst 1), (24, .invokevirtual 75), (27, .ireturn), (28, .aload_n 2), (29, .invokevirtual 101), (32, .iconst 1), (33, .ireturn)]
set_option maxRecDepth 100000 in
theorem ok_X5_tear : jOk md_X5_tear tb_X5_tear := jOk_of (by decide +kernel)
def md_X5_copy : MD := (yX5_copy, cX5_copy, 8, (some .int), 0, 0)
def tb_X5_copy : List (Nat × Instr) := [(0, .aload_n 0), (1, .getfield 11), (4, .iload_n 1), (5, .invokestatic 71), (8, .astore 6), (10, .aload_n 0), (11, .getfield 11), (14, .iload_n 3), (15, .invokestatic 71), (18, .astore 7), (20, .aload 6), (22, .ifnull 8), (25, .aload 7), (27, .ifnonnull 5), (30, .iconst (-1)), (31, .ireturn), (32, .iload 5), (34, .ifCond .ge 9), (37, .aload_n 0), (38, .iconst 5), (39, .invokevirtual 75), (42, .ireturn), (43, .aload 6), (45, .invokevirtual 97), (48, .ifCond .ne 11), (51, .aload 7), (53, .invokevirtual 97), (56, .ifCond .eq 9), (59, .aload_n 0), (60, .iconst 1), (61, .invokevirtual 75), (64, .ireturn), (65, .aload 6), (67, .iload_n 2), (68, .iload 5), (70, .invokevirtual 104), (73, .ifCond .eq 15), (76, .aload 7), (78, .iload 4), (80, .iload 5), (82, .invokevirtual 104), (85, .ifCond .ne 9), (88, .aload_n 0), (89, .iconst 2), (90, .invokevirtual 75), (93, .ireturn), (94, .aload 7), (96, .aload 6), (98, .iload_n 2), (99, .iload 4), (101, .iload 5), (103, .invokevirtual 108), (106, .iconst 1), (107, .ireturn)]
set_option maxRecDepth 100000 in
theorem ok_X5_copy : jOk md_X5_copy tb_X5_copy := jOk_of (by decide +kernel)
def md_X5_mean : MD := (yX5_mean, cX5_mean, 3, (some .int), 0, 0)
def tb_X5_mean : List (Nat × Instr) := [(0, .aload_n 0), (1, .getfield 11), (4, .iload_n 1), (5, .invokestatic 71), (8, .astore_n 2), (9, .aload_n 2), (10, .ifnonnull 5), (13, .iconst (-1)), (14, .ireturn), (15, .aload_n 2), (16, .invokevirtual 97), (19, .ifCond .eq 9), (22, .aload_n 0), (23, .iconst 1), (24, .invokevirtual 75), (27, .ireturn), (28, .aload_n 2), (29, .getfield 112), (32, .ifCond .ne 9), (35, .aload_n 0), (36, .iconst 4), (37, .invokevirtual 75), (40, .ireturn), (41, .aload_n 0), (42, .aload_n 2), (43, .invokevirtual 115), (46, .putfield 90), (49, .iconst 1), (50, .ireturn)]
set_option maxRecDepth 100000 in
theorem ok_X5_mean : jOk md_X5_mean tb_X5_mean := jOk_of (by decide +kernel)
def md_X5_text : MD := (yX5_text, cX5_text, 4, (some .int), 0, 0)
def tb_X5_text : List (Nat × Instr) := [(0, .aload_n 0), (1, .getfield 15), (4, .iload_n 1), (5, .invokestatic 71), (8, .astore_n 3), (9, .aload_n 3), (10, .ifnull 9), (13, .iload_n 2), (14, .bipush 60), (16, .if_icmp .le 5), (19, .iconst (-1)), (20, .ireturn), (21, .iload_n 2), (22, .ifCond .ge 9), (25, .aload_n 0), (26, .iconst 5), (27, .invokevirtual 75), (30, .ireturn), (31, .aload_n 3), (32, .iload_n 2), (33, .bipush 32), (35, .invokevirtual 79), (38, .iload_n 2), (39, .ireturn)]
set_option maxRecDepth 100000 in
theorem ok_X5_text : jOk md_X5_text tb_X5_text := jOk_of (by decide +kernel)
def md_X5_put : MD := (yX5_put, cX5_put, 7, (some .int), 0, 0)
def tb_X5_put : List (Nat × Instr) := [(0, .aload_n 0), (1, .getfield 15), (4, .iload_n 1), (5, .invokestatic 71), (8, .astore 4), (10, .aload 4), (12, .ifnonnull 5), (15, .iconst (-1)), (16, .ireturn), (17, .aload_n 0), (18, .aload 4), (20, .iload_n 2), (21, .invokevirtual 83), (24, .istore 5), (26, .iload 5), (28, .ifCond .eq 6), (31, .iload 5), (33, .ireturn), (34, .aload 4), (36, .iload_n 2), (37, .invokevirtual 87), (40, .istore 6), (42, .aload 4), (44, .iload_n 2), (45, .iload_n 3), (46, .i2b), (47, .invokevirtual 94), (50, .iload 6), (52, .sipush 1000), (55, .iadd), (56, .ireturn)]
set_option maxRecDepth 100000 in
theorem ok_X5_put : jOk md_X5_put tb_X5_put := jOk_of (by decide +kernel)
def md_X5_fault : MD := (yX5_fault, cX5_fault, 3, (some .int), 0, 0)
def tb_X5_fault : List (Nat × Instr) := [(0, .aload_n 0), (1, .getfield 15), (4, .iload_n 1), (5, .invokestatic 71), (8, .astore_n 2), (9, .aload_n 2), (10, .ifnonnull 5), (13, .iconst (-1)), (14, .ireturn), (15, .aload_n 2), (16, .invokevirtual 97), (19, .ifCond .eq 9), (22, .aload_n 0), (23, .iconst 1), (24, .invokevirtual 75), (27, .ireturn), (28, .aload_n 0), (29, .getfield 21), (32, .aload_n 2), (33, .aload_n 0), (34, .getfield 57), (37, .invokevirtual 119), (40, .ireturn)]
set_option maxRecDepth 100000 in
theorem ok_X5_fault : jOk md_X5_fault tb_X5_fault := jOk_of (by decide +kernel)
def md_X5_town : MD := (yX5_town, cX5_town, 8, (some .int), 0, 0)
def tb_X5_town : List (Nat × Instr) := [(0, .aload_n 0), (1, .getfield 15), (4, .iload_n 1), (5, .invokestatic 71), (8, .astore_n 2), (9, .aload_n 2), (10, .ifnonnull 5), (13, .iconst (-1)), (14, .ireturn), (15, .aload_n 2), (16, .invokevirtual 97), (19, .ifCond .eq 9), (22, .aload_n 0), (23, .iconst 1), (24, .invokevirtual 75), (27, .ireturn), (28, .aload_n 0), (29, .getfield 21), (32, .aload_n 2), (33, .aload_n 0), (34, .getfield 57), (37, .invokevirtual 119), (40, .bipush (-9)), (42, .if_icmp .eq 6), (45, .bipush (-4)), (47, .ireturn), (48, .aload_n 0), (49, .getfield 53), (52, .astore_n 3), (53, .aload_n 0), (54, .aload_n 0), (55, .getfield 57), (58, .putfield 53), (61, .aload_n 0), (62, .aload_n 3), (63, .putfield 57), (66, .aload_n 0), (67, .getfield 28), (70, .aload_n 0), (71, .getfield 53), (74, .invokevirtual 63), (77, .aload_n 0), (78, .getfield 32), (81, .astore 4), (83, .aload 4), (85, .arraylength), (86, .istore 5), (88, .iconst 0), (89, .istore 6), (91, .iload 6), (93, .iload 5), (95, .if_icmp .ge 22), (98, .aload 4), (100, .iload 6), (102, .aaload), (103, .astore 7), (105, .aload 7), (107, .iconst 0), (108, .putfield 123), (111, .iinc 6 1), (114, .goto (-23)), (117, .aload_n 0), (118, .getfield 53), (121, .getfield 127), (124, .ireturn)]
set_option maxRecDepth 100000 in
theorem ok_X5_town : jOk md_X5_town tb_X5_town := jOk_of (by decide +kernel)
def md_X5_hasReached : MD := (yX5_hasReached, cX5_hasReached, 2, (some .boolean), 0, 0)
def tb_X5_hasReached : List (Nat × Instr) := [(0, .aload_n 0), (1, .getfield 28), (4, .iload_n 1), (5, .invokevirtual 330), (8, .aload_n 0), (9, .getfield 53), (12, .iload_n 1), (13, .invokevirtual 324), (16, .if_icmp .lt 7), (19, .iconst 1), (20, .goto 4), (23, .iconst 0), (24, .ireturn)]
set_option maxRecDepth 100000 in
theorem ok_X5_hasReached : jOk md_X5_hasReached tb_X5_hasReached := jOk_of (by decide +kernel)
def md_X5_trait : MD := (yX5_trait, cX5_trait, 3, (some .int), 0, 0)
def tb_X5_trait : List (Nat × Instr) := [(0, .iload_n 2), (48, .aload_n 0), (49, .getfield 53), (52, .iload_n 1), (53, .invokevirtual 321), (56, .ireturn), (57, .aload_n 0), (58, .getfield 53), (61, .iload_n 1), (62, .invokevirtual 324), (65, .ireturn), (66, .aload_n 0), (67, .getfield 53), (70, .iload_n 1), (71, .invokevirtual 327), (74, .ireturn), (75, .aload_n 0), (76, .getfield 28), (79, .iload_n 1), (80, .invokevirtual 178), (83, .ireturn), (84, .aload_n 0), (85, .getfield 28), (88, .iload_n 1), (89, .invokevirtual 203), (92, .ireturn), (93, .aload_n 0), (94, .getfield 28), (97, .iload_n 1), (98, .invokevirtual 330), (101, .ireturn), (102, .aload_n 0), (103, .getfield 28), (106, .iload_n 1), (107, .invokevirtual 333), (110, .ireturn), (111, .aload_n 0), (112, .iload_n 1), (113, .invokevirtual 206), (116, .ifCond .eq 7), (119, .iconst 1), (120, .goto 4), (123, .iconst 0), (124, .ireturn), (125, .aload_n 0), (126, .getfield 53), (129, .iload_n 1), (130, .invokevirtual 145), (133, .ireturn)]
set_option maxRecDepth 100000 in
theorem ok_X5_trait : jOk md_X5_trait tb_X5_trait := jOk_of (by decide +kernel)
def md_X5_person : MD := (yX5_person, cX5_person, 3, (some .int), 0, 0)
def tb_X5_person : List (Nat × Instr) := [(0, .aload_n 0), (1, .getfield 53), (4, .iload_n 1), (5, .invokevirtual 128), (8, .ifCond .eq 13), (11, .iload_n 2), (12, .ifCond .lt 9), (15, .iload_n 2), (16, .bipush 9), (18, .if_icmp .lt 5), (21, .iconst (-1)), (22, .ireturn), (23, .aload_n 0), (24, .aload_n 0), (25, .iload_n 1), (26, .iload_n 2), (27, .invokevirtual 132), (30, .putfield 90), (33, .iconst 1), (34, .ireturn)]
set_option maxRecDepth 100000 in
theorem ok_X5_person : jOk md_X5_person tb_X5_person := jOk_of (by decide +kernel)
def md_X5_calmedBy : MD := (yX5_calmedBy, cX5_calmedBy, 4, (some .int), 0, 0)
def tb_X5_calmedBy : List (Nat × Instr) := [(0, .iconst 0), (1, .istore_n 2), (2, .iconst 0), (3, .istore_n 3), (4, .iload_n 3), (5, .aload_n 0), (6, .getfield 53), (9, .getfield 127), (12, .if_icmp .ge 52), (15, .iload_n 3), (16, .iload_n 1), (17, .if_icmp .eq 41), (20, .aload_n 0), (21, .getfield 53), (24, .iload_n 3), (25, .invokevirtual 145), (28, .iload_n 1), (29, .invokestatic 197), (32, .ifCond .ne 26), (35, .aload_n 0), (36, .getfield 53), (39, .iload_n 3), (40, .invokevirtual 139), (43, .aload_n 0), (44, .getfield 53), (47, .iload_n 3), (48, .iload_n 1), (49, .invokevirtual 162), (52, .if_icmp .le 6), (55, .iinc 2 1), (58, .iinc 3 1), (61, .goto (-57)), (64, .iload_n 2), (65, .ireturn)]
set_option maxRecDepth 100000 in
theorem ok_X5_calmedBy : jOk md_X5_calmedBy tb_X5_calmedBy := jOk_of (by decide +kernel)
def md_X5_owesDuty : MD := (yX5_owesDuty, cX5_owesDuty, 3, (some .boolean), 0, 0)
def tb_X5_owesDuty : List (Nat × Instr) := [(0, .aload_n 0), (1, .getfield 28), (4, .iload_n 1), (5, .invokevirtual 178), (8, .istore_n 2), (9, .iload_n 2), (10, .bipush (-9)), (12, .if_icmp .eq 42), (15, .aload_n 0), (16, .getfield 53), (19, .iload_n 1), (20, .iconst 2), (21, .invokevirtual 136), (24, .ifCond .ne 30), (27, .aload_n 0), (28, .getfield 53), (31, .iload_n 1), (32, .invokevirtual 145), (35, .iload_n 2), (36, .invokestatic 197), (39, .ifCond .ne 15), (42, .aload_n 0), (43, .iload_n 2), (44, .invokevirtual 206), (47, .ifCond .ne 7), (50, .iconst 1), (51, .goto 4), (54, .iconst 0), (55, .ireturn)]
set_option maxRecDepth 100000 in
theorem ok_X5_owesDuty : jOk md_X5_owesDuty tb_X5_owesDuty := jOk_of (by decide +kernel)
def md_X5_weeksForNine : MD := (yX5_weeksForNine, cX5_weeksForNine, 4, (some .int), 0, 0)
def tb_X5_weeksForNine : List (Nat × Instr) := [(0, .aload_n 0), (1, .getfield 28), (4, .iload_n 1), (5, .invokevirtual 178), (8, .istore_n 2), (9, .iload_n 2), (10, .bipush (-9)), (12, .if_icmp .ne 7), (15, .iconst 0), (16, .goto 12), (19, .aload_n 0), (20, .getfield 53), (23, .iload_n 1), (24, .iload_n 2), (25, .invokevirtual 162), (28, .istore_n 3), (29, .iload_n 3), (30, .ifCond .gt 8), (33, .bipush (-9)), (35, .goto 11), (38, .bipush 9), (40, .iload_n 3), (41, .iadd), (42, .iconst 1), (43, .isub), (44, .iload_n 3), (45, .idiv), (46, .ireturn)]
set_option maxRecDepth 100000 in
theorem ok_X5_weeksForNine : jOk md_X5_weeksForNine tb_X5_weeksForNine := jOk_of (by decide +kernel)
def md_X5_mark : MD := (yX5_mark, cX5_mark, 3, (some .int), 0, 0)
def tb_X5_mark : List (Nat × Instr) := [(0, .aload_n 0), (1, .getfield 53), (4, .iload_n 1), (5, .invokevirtual 128), (8, .ifCond .eq 13), (11, .iload_n 2), (12, .iconst 1), (13, .if_icmp .lt 8), (16, .iload_n 2), (17, .iconst 5), (18, .if_icmp .le 5), (21, .iconst (-1)), (22, .ireturn), (23, .aload_n 0), (24, .getfield 53), (27, .iload_n 1), (28, .iload_n 2), (29, .invokevirtual 136), (32, .ifCond .ne 9), (35, .aload_n 0), (36, .iconst 3), (37, .invokevirtual 75), (40, .ireturn), (41, .iload_n 2), (72, .aload_n 0), (73, .getfield 53), (76, .iload_n 1), (77, .invokevirtual 139), (80, .ireturn), (81, .aload_n 0), (82, .iload_n 1), (83, .invokevirtual 142), (86, .ireturn), (87, .aload_n 0), (88, .getfield 53), (91, .iload_n 1), (92, .invokevirtual 145), (95, .invokestatic 148), (98, .ireturn), (99, .aload_n 0), (100, .iload_n 1), (101, .invokevirtual 153), (104, .ireturn), (105, .aload_n 0), (106, .iload_n 1), (107, .invokevirtual 156), (110, .ifCond .eq 7), (113, .iconst 1), (114, .goto 4), (117, .iconst 0), (118, .ireturn)]
set_option maxRecDepth 100000 in
theorem ok_X5_mark : jOk md_X5_mark tb_X5_mark := jOk_of (by decide +kernel)
def md_X5_isPair : MD := (yX5_isPair, cX5_isPair, 3, (some .boolean), 0, 0)
def tb_X5_isPair : List (Nat × Instr) := [(0, .aload_n 0), (1, .getfield 53), (4, .iload_n 1), (5, .invokevirtual 128), (8, .ifCond .eq 23), (11, .aload_n 0), (12, .getfield 53), (15, .iload_n 2), (16, .invokevirtual 128), (19, .ifCond .eq 12), (22, .iload_n 1), (23, .iload_n 2), (24, .if_icmp .eq 7), (27, .iconst 1), (28, .goto 4), (31, .iconst 0), (32, .ireturn)]
set_option maxRecDepth 100000 in
theorem ok_X5_isPair : jOk md_X5_isPair tb_X5_isPair := jOk_of (by decide +kernel)
def md_X5_strength : MD := (yX5_strength, cX5_strength, 3, (some .int), 0, 0)
def tb_X5_strength : List (Nat × Instr) := [(0, .aload_n 0), (1, .iload_n 1), (2, .iload_n 2), (3, .invokevirtual 159), (6, .ifCond .eq 15), (9, .aload_n 0), (10, .getfield 53), (13, .iload_n 1), (14, .iload_n 2), (15, .invokevirtual 162), (18, .goto 4), (21, .iconst (-1)), (22, .ireturn)]
set_option maxRecDepth 100000 in
theorem ok_X5_strength : jOk md_X5_strength tb_X5_strength := jOk_of (by decide +kernel)
def md_X5_isAct : MD := (yX5_isAct, cX5_isAct, 3, (some .boolean), 0, 0)
def tb_X5_isAct : List (Nat × Instr) := [(0, .iload_n 2), (1, .iconst 2), (2, .if_icmp .ne 22), (5, .aload_n 0), (6, .getfield 28), (9, .iload_n 1), (10, .invokevirtual 178), (13, .bipush (-9)), (15, .if_icmp .eq 7), (18, .iconst 1), (19, .goto 4), (22, .iconst 0), (23, .ireturn), (24, .iload_n 2), (25, .ifCond .eq 8), (28, .iload_n 2), (29, .iconst 1), (30, .if_icmp .ne 7), (33, .iconst 1), (34, .goto 4), (37, .iconst 0), (38, .ireturn)]
set_option maxRecDepth 100000 in
theorem ok_X5_isAct : jOk md_X5_isAct tb_X5_isAct := jOk_of (by decide +kernel)
def md_X5_fineIdle : MD := (yX5_fineIdle, cX5_fineIdle, 2, none, 0, 0)
def tb_X5_fineIdle : List (Nat × Instr) := [(0, .iconst 0), (1, .istore_n 1), (2, .iload_n 1), (3, .aload_n 0), (4, .getfield 53), (7, .getfield 127), (10, .if_icmp .ge 41), (13, .iload_n 1), (14, .bipush 6), (16, .if_icmp .ge 35), (19, .aload_n 0), (20, .getfield 43), (23, .iload_n 1), (24, .iaload), (25, .iconst 2), (26, .if_icmp .eq 19), (29, .aload_n 0), (30, .iload_n 1), (31, .invokevirtual 156), (34, .ifCond .eq 11), (37, .aload_n 0), (38, .getfield 28), (41, .iload_n 1), (42, .invokevirtual 347), (45, .iinc 1 1), (48, .goto (-46)), (51, .return_)]
set_option maxRecDepth 100000 in
theorem ok_X5_fineIdle : jOk md_X5_fineIdle tb_X5_fineIdle := jOk_of (by decide +kernel)
def md_X5_reachedSet : MD := (yX5_reachedSet, cX5_reachedSet, 3, (some .int), 0, 0)
def tb_X5_reachedSet : List (Nat × Instr) := [(0, .iconst 0), (1, .istore_n 1), (2, .iconst 0), (3, .istore_n 2), (4, .iload_n 2), (5, .aload_n 0), (6, .getfield 53), (9, .getfield 127), (12, .if_icmp .ge 23), (15, .aload_n 0), (16, .iload_n 2), (17, .invokevirtual 206), (20, .ifCond .eq 9), (23, .iload_n 1), (24, .iconst 1), (25, .iload_n 2), (26, .ishl), (27, .ior), (28, .istore_n 1), (29, .iinc 2 1), (32, .goto (-28)), (35, .iload_n 1), (36, .ireturn)]
set_option maxRecDepth 100000 in
theorem ok_X5_reachedSet : jOk md_X5_reachedSet tb_X5_reachedSet := jOk_of (by decide +kernel)
def md_X5_passWeek : MD := (yX5_passWeek, cX5_passWeek, 5, (some .int), 0, 0)
def tb_X5_passWeek : List (Nat × Instr) := [(0, .aload_n 0), (1, .getfield 28), (4, .invokevirtual 181), (7, .ifCond .ne 5), (10, .iconst 0), (11, .ireturn), (12, .aload_n 0), (13, .invokevirtual 285), (16, .istore_n 1), (17, .aload_n 0), (18, .invokevirtual 336), (21, .iconst 0), (22, .istore_n 2), (23, .iload_n 2), (24, .aload_n 0), (25, .getfield 53), (28, .getfield 127), (31, .if_icmp .ge 51), (34, .iload_n 2), (35, .bipush 6), (37, .if_icmp .ge 45), (40, .aload_n 0), (41, .getfield 43), (44, .iload_n 2), (45, .iaload), (46, .iconst 1), (47, .if_icmp .ne 29), (50, .iload_n 1), (51, .iload_n 2), (52, .invokestatic 197), (55, .ifCond .ne 21), (58, .aload_n 0), (59, .getfield 28), (62, .iload_n 2), (63, .aload_n 0), (64, .getfield 28), (67, .iload_n 2), (68, .invokevirtual 330), (71, .iconst 1), (72, .iadd), (73, .invokevirtual 339), (76, .iinc 2 1), (79, .goto (-56)), (82, .iconst 0), (83, .istore_n 2), (84, .iload_n 2), (85, .aload_n 0), (86, .getfield 53), (89, .getfield 127), (92, .if_icmp .ge 82), (95, .iload_n 2), (96, .bipush 6), (98, .if_icmp .ge 76), (101, .aload_n 0), (102, .getfield 28), (105, .iload_n 2), (106, .invokevirtual 178), (109, .istore_n 3), (110, .aload_n 0), (111, .getfield 43), (114, .iload_n 2), (115, .iaload), (116, .iconst 2), (117, .if_icmp .ne 51), (120, .iload_n 3), (121, .bipush (-9)), (123, .if_icmp .eq 45), (126, .iload_n 1), (127, .iload_n 3), (128, .invokestatic 197), (131, .ifCond .ne 37), (134, .aload_n 0), (135, .getfield 28), (138, .iload_n 3), (139, .invokevirtual 330), (142, .aload_n 0), (143, .getfield 53), (146, .iload_n 2), (147, .iload_n 3), (148, .invokevirtual 162), (151, .isub), (152, .istore 4), (154, .aload_n 0), (155, .getfield 28), (158, .iload_n 3), (159, .iconst 0), (160, .iload 4), (162, .invokestatic 342), (165, .invokevirtual 339), (168, .iinc 2 1), (171, .goto (-87)), (174, .aload_n 0), (175, .invokevirtual 285), (178, .iload_n 1), (179, .iconst (-1)), (180, .ixor), (181, .iand), (182, .invokestatic 148), (185, .ireturn)]
set_option maxRecDepth 100000 in
theorem ok_X5_passWeek : jOk md_X5_passWeek tb_X5_passWeek := jOk_of (by decide +kernel)
def md_X5_refuseRow : MD := (yX5_refuseRow, cX5_refuseRow, 2, (some .int), 0, 0)
def tb_X5_refuseRow : List (Nat × Instr) := [(0, .aload_n 0), (1, .getfield 53), (4, .getfield 127), (7, .ifCond .ne 6), (10, .bipush (-4)), (12, .ireturn), (13, .aload_n 1), (14, .invokevirtual 97), (17, .ifCond .eq 11), (20, .aload_n 0), (21, .iconst 1), (22, .invokevirtual 75), (25, .goto 4), (28, .iconst 0), (29, .ireturn)]
set_option maxRecDepth 100000 in
theorem ok_X5_refuseRow : jOk md_X5_refuseRow tb_X5_refuseRow := jOk_of (by decide +kernel)
def md_X5_refuseFolkRow : MD := (yX5_refuseFolkRow, cX5_refuseFolkRow, 3, (some .int), 0, 0)
def tb_X5_refuseFolkRow : List (Nat × Instr) := [(0, .aload_n 0), (1, .aload_n 1), (2, .invokevirtual 318), (5, .istore_n 2), (6, .iload_n 2), (7, .ifCond .eq 5), (10, .iload_n 2), (11, .ireturn), (12, .aload_n 1), (13, .getfield 112), (16, .aload_n 0), (17, .getfield 53), (20, .getfield 127), (23, .if_icmp .ne 7), (26, .iconst 0), (27, .goto 8), (30, .aload_n 0), (31, .iconst 5), (32, .invokevirtual 75), (35, .ireturn)]
set_option maxRecDepth 100000 in
theorem ok_X5_refuseFolkRow : jOk md_X5_refuseFolkRow tb_X5_refuseFolkRow := jOk_of (by decide +kernel)
def md_X5_week : MD := (yX5_week, cX5_week, 5, (some .int), 0, 0)
def tb_X5_week : List (Nat × Instr) := [(0, .aload_n 0), (1, .getfield 11), (4, .iload_n 1), (5, .invokestatic 71), (8, .astore_n 2), (9, .aload_n 2), (10, .ifnonnull 5), (13, .iconst (-1)), (14, .ireturn), (15, .aload_n 0), (16, .aload_n 2), (17, .invokevirtual 165), (20, .istore_n 3), (21, .iload_n 3), (22, .ifCond .eq 5), (25, .iload_n 3), (26, .ireturn), (27, .iconst 0), (28, .istore 4), (30, .iload 4), (32, .aload_n 0), (33, .getfield 53), (36, .getfield 127), (39, .if_icmp .ge 30), (42, .aload_n 0), (43, .iload 4), (45, .aload_n 2), (46, .iload 4), (48, .invokevirtual 87), (51, .invokevirtual 169), (54, .ifCond .ne 9), (57, .aload_n 0), (58, .iconst 3), (59, .invokevirtual 75), (62, .ireturn), (63, .iinc 4 1), (66, .goto (-36)), (69, .aload_n 0), (70, .getfield 28), (73, .getfield 172), (76, .bipush 40), (78, .if_icmp .lt 6), (81, .bipush (-2)), (83, .ireturn), (84, .iconst 0), (85, .istore 4), (87, .iload 4), (89, .aload_n 0), (90, .getfield 53), (93, .getfield 127), (96, .if_icmp .ge 29), (99, .iload 4), (101, .bipush 6), (103, .if_icmp .ge 22), (106, .aload_n 0), (107, .getfield 43), (110, .iload 4), (112, .aload_n 2), (113, .iload 4), (115, .invokevirtual 87), (118, .iastore), (119, .iinc 4 1), (122, .goto (-35)), (125, .aload_n 0), (126, .invokevirtual 175), (129, .ireturn)]
set_option maxRecDepth 100000 in
theorem ok_X5_week : jOk md_X5_week tb_X5_week := jOk_of (by decide +kernel)
def md_X5_exchange : MD := (yX5_exchange, cX5_exchange, 5, (some .int), 0, 0)
def tb_X5_exchange : List (Nat × Instr) := [(0, .aload_n 0), (1, .iload_n 1), (2, .iload_n 2), (3, .invokevirtual 159), (6, .ifCond .ne 5), (9, .iconst (-1)), (10, .ireturn), (11, .aload_n 0), (12, .getfield 28), (15, .iload_n 1), (16, .invokevirtual 178), (19, .istore_n 3), (20, .aload_n 0), (21, .getfield 28), (24, .iload_n 2), (25, .invokevirtual 178), (28, .istore 4), (30, .iload_n 3), (31, .iload_n 2), (32, .if_icmp .eq 9), (35, .iload 4), (37, .iload_n 1), (38, .if_icmp .ne 6), (41, .bipush (-4)), (43, .ireturn), (44, .aload_n 0), (45, .getfield 28), (48, .invokevirtual 181), (51, .ifCond .ne 6), (54, .bipush (-2)), (56, .ireturn), (57, .aload_n 0), (58, .getfield 28), (61, .iload_n 1), (62, .iload 4), (64, .invokevirtual 184), (67, .aload_n 0), (68, .getfield 28), (71, .iload_n 2), (72, .iload_n 3), (73, .invokevirtual 184), (76, .iconst 1), (77, .ireturn)]
set_option maxRecDepth 100000 in
theorem ok_X5_exchange : jOk md_X5_exchange tb_X5_exchange := jOk_of (by decide +kernel)
def md_X5_undo : MD := (yX5_undo, cX5_undo, 2, (some .int), 0, 0)
def tb_X5_undo : List (Nat × Instr) := [(0, .iload_n 1), (1, .ifCond .lt 14), (4, .iload_n 1), (5, .aload_n 0), (6, .getfield 28), (9, .getfield 172), (12, .if_icmp .le 7), (15, .iconst (-1)), (16, .goto 11), (19, .aload_n 0), (20, .getfield 28), (23, .iload_n 1), (24, .invokevirtual 187), (27, .ireturn)]
set_option maxRecDepth 100000 in
theorem ok_X5_undo : jOk md_X5_undo tb_X5_undo := jOk_of (by decide +kernel)
def md_X5_shelfAt : MD := (yX5_shelfAt, cX5_shelfAt, 2, (some (.object "EnemyByLot$Town")), 0, 0)
def tb_X5_shelfAt : List (Nat × Instr) := [(0, .iload_n 1), (1, .ifCond .lt 21), (4, .iload_n 1), (5, .aload_n 0), (6, .getfield 32), (9, .arraylength), (10, .if_icmp .ge 12), (13, .aload_n 0), (14, .getfield 32), (17, .iload_n 1), (18, .aaload), (19, .goto 4), (22, .aconst_null), (23, .areturn)]
set_option maxRecDepth 100000 in
theorem ok_X5_shelfAt : jOk md_X5_shelfAt tb_X5_shelfAt := jOk_of (by decide +kernel)
def md_X5_keep : MD := (yX5_keep, cX5_keep, 3, (some .int), 0, 0)
def tb_X5_keep : List (Nat × Instr) := [(0, .aload_n 0), (1, .iload_n 1), (2, .invokevirtual 190), (5, .astore_n 2), (6, .aload_n 2), (7, .ifnonnull 5), (10, .iconst (-1)), (11, .ireturn), (12, .aload_n 0), (13, .getfield 53), (16, .getfield 127), (19, .ifCond .ne 6), (22, .bipush (-4)), (24, .ireturn), (25, .aload_n 2), (26, .aload_n 0), (27, .getfield 28), (30, .invokevirtual 194), (33, .aload_n 2), (34, .iconst 1), (35, .putfield 123), (38, .aload_n 0), (39, .getfield 28), (42, .getfield 172), (45, .ireturn)]
set_option maxRecDepth 100000 in
theorem ok_X5_keep : jOk md_X5_keep tb_X5_keep := jOk_of (by decide +kernel)
def md_X5_on : MD := (yX5_on, cX5_on, 3, (some .int), 0, 0)
def tb_X5_on : List (Nat × Instr) := [(0, .aload_n 0), (1, .iload_n 1), (2, .invokevirtual 190), (5, .astore_n 2), (6, .aload_n 2), (7, .ifnonnull 5), (10, .iconst (-1)), (11, .ireturn), (12, .aload_n 2), (13, .getfield 123), (16, .ifCond .ne 9), (19, .aload_n 0), (20, .iconst 1), (21, .invokevirtual 75), (24, .ireturn), (25, .aload_n 0), (26, .getfield 28), (29, .aload_n 2), (30, .invokevirtual 194), (33, .aload_n 0), (34, .getfield 28), (37, .getfield 172), (40, .ireturn)]
set_option maxRecDepth 100000 in
theorem ok_X5_on : jOk md_X5_on tb_X5_on := jOk_of (by decide +kernel)
def md_X5_ringOf : MD := (yX5_ringOf, cX5_ringOf, 5, (some .int), 0, 0)
def tb_X5_ringOf : List (Nat × Instr) := [(0, .iconst 0), (1, .istore_n 2), (2, .iload_n 1), (3, .istore_n 3), (4, .iconst 0), (5, .istore 4), (7, .iload 4), (9, .bipush 6), (11, .if_icmp .ge 37), (14, .iload_n 2), (15, .iconst 1), (16, .iload_n 3), (17, .ishl), (18, .ior), (19, .istore_n 2), (20, .aload_n 0), (21, .getfield 28), (24, .iload_n 3), (25, .invokevirtual 178), (28, .istore_n 3), (29, .iload_n 3), (30, .iload_n 1), (31, .if_icmp .ne 5), (34, .iload_n 2), (35, .ireturn), (36, .iload_n 3), (37, .ifCond .ge 5), (40, .iconst 0), (41, .ireturn), (42, .iinc 4 1), (45, .goto (-38)), (48, .iconst 0), (49, .ireturn)]
set_option maxRecDepth 100000 in
theorem ok_X5_ringOf : jOk md_X5_ringOf tb_X5_ringOf := jOk_of (by decide +kernel)
def md_X5_rings : MD := (yX5_rings, cX5_rings, 6, (some .int), 0, 0)
def tb_X5_rings : List (Nat × Instr) := [(0, .iconst 0), (1, .istore_n 1), (2, .iconst 0), (3, .istore_n 2), (4, .iconst 0), (5, .istore_n 3), (6, .iconst 0), (7, .istore 4), (9, .iload 4), (11, .aload_n 0), (12, .getfield 53), (15, .getfield 127), (18, .if_icmp .ge 61), (21, .iload_n 3), (22, .iload 4), (24, .invokestatic 197), (27, .ifCond .eq 7), (30, .iconst 0), (31, .goto 9), (34, .aload_n 0), (35, .iload 4), (37, .invokevirtual 200), (40, .istore 5), (42, .iload 5), (44, .ifCond .ne 6), (47, .goto 26), (50, .iload_n 3), (51, .iload 5), (53, .ior), (54, .istore_n 3), (55, .iinc 1 1), (58, .iload 5), (60, .invokestatic 148), (63, .iload_n 2), (64, .invokestatic 148), (67, .if_icmp .le 6), (70, .iload 5), (72, .istore_n 2), (73, .iinc 4 1), (76, .goto (-67)), (79, .aload_n 0), (80, .iload_n 2), (81, .putfield 90), (84, .iload_n 1), (85, .ireturn)]
set_option maxRecDepth 100000 in
theorem ok_X5_rings : jOk md_X5_rings tb_X5_rings := jOk_of (by decide +kernel)
def md_X5_allies : MD := (yX5_allies, cX5_allies, 5, (some .int), 0, 0)
def tb_X5_allies : List (Nat × Instr) := [(0, .aload_n 0), (1, .getfield 53), (4, .iload_n 1), (5, .invokevirtual 128), (8, .ifCond .ne 5), (11, .iconst (-1)), (12, .ireturn), (13, .iconst 0), (14, .istore_n 2), (15, .aload_n 0), (16, .getfield 28), (19, .aload_n 0), (20, .getfield 28), (23, .iload_n 1), (24, .invokevirtual 203), (27, .invokevirtual 203), (30, .istore_n 3), (31, .iconst 0), (32, .istore 4), (34, .iload 4), (36, .bipush 6), (38, .if_icmp .ge 50), (41, .iload_n 3), (42, .ifCond .lt 16), (45, .iload_n 3), (46, .iload_n 1), (47, .if_icmp .eq 11), (50, .iload_n 2), (51, .iload_n 3), (52, .invokestatic 197), (55, .ifCond .eq 5), (58, .iload_n 2), (59, .ireturn), (60, .iload_n 2), (61, .iconst 1), (62, .iload_n 3), (63, .ishl), (64, .ior), (65, .istore_n 2), (66, .aload_n 0), (67, .getfield 28), (70, .aload_n 0), (71, .getfield 28), (74, .iload_n 3), (75, .invokevirtual 203), (78, .invokevirtual 203), (81, .istore_n 3), (82, .iinc 4 1), (85, .goto (-51)), (88, .iload_n 2), (89, .ireturn)]
set_option maxRecDepth 100000 in
theorem ok_X5_allies : jOk md_X5_allies tb_X5_allies := jOk_of (by decide +kernel)
def md_X5_lossOf : MD := (yX5_lossOf, cX5_lossOf, 3, (some .int), 0, 0)
def tb_X5_lossOf : List (Nat × Instr) := [(0, .aload_n 0), (1, .getfield 28), (4, .iload_n 1), (5, .invokevirtual 203), (8, .istore_n 2), (9, .iload_n 2), (10, .bipush (-9)), (12, .if_icmp .ne 7), (15, .iconst 0), (16, .goto 12), (19, .aload_n 0), (20, .getfield 53), (23, .iload_n 2), (24, .iload_n 1), (25, .invokevirtual 162), (28, .ireturn)]
set_option maxRecDepth 100000 in
theorem ok_X5_lossOf : jOk md_X5_lossOf tb_X5_lossOf := jOk_of (by decide +kernel)
def md_X5_safe : MD := (yX5_safe, cX5_safe, 3, (some .int), 0, 0)
def tb_X5_safe : List (Nat × Instr) := [(0, .aload_n 0), (1, .getfield 53), (4, .getfield 127), (7, .ifCond .ne 6), (10, .bipush (-4)), (12, .ireturn), (13, .iconst 0), (14, .istore_n 1), (15, .iconst 0), (16, .istore_n 2), (17, .iload_n 2), (18, .aload_n 0), (19, .getfield 53), (22, .getfield 127), (25, .if_icmp .ge 31), (28, .aload_n 0), (29, .iload_n 2), (30, .invokevirtual 206), (33, .ifCond .ne 11), (36, .aload_n 0), (37, .iload_n 2), (38, .invokevirtual 209), (41, .ifCond .ne 9), (44, .iload_n 1), (45, .iconst 1), (46, .iload_n 2), (47, .ishl), (48, .ior), (49, .istore_n 1), (50, .iinc 2 1), (53, .goto (-36)), (56, .iload_n 1), (57, .ireturn)]
set_option maxRecDepth 100000 in
theorem ok_X5_safe : jOk md_X5_safe tb_X5_safe := jOk_of (by decide +kernel)
def md_X5_afterWeek : MD := (yX5_afterWeek, cX5_afterWeek, 2, (some .int), 0, 0)
def tb_X5_afterWeek : List (Nat × Instr) := [(0, .iconst 0), (1, .iload_n 0), (2, .iconst 1), (3, .iadd), (4, .iload_n 1), (5, .isub), (6, .invokestatic 342), (9, .ireturn)]
set_option maxRecDepth 100000 in
theorem ok_X5_afterWeek : jOk md_X5_afterWeek tb_X5_afterWeek := jOk_of (by decide +kernel)
def md_X5_fewestWeeks : MD := (yX5_fewestWeeks, cX5_fewestWeeks, 7, (some .int), 0, 0)
def tb_X5_fewestWeeks : List (Nat × Instr) := [(0, .aload_n 0), (1, .getfield 28), (4, .iload_n 1), (5, .invokevirtual 330), (8, .istore_n 3), (9, .aload_n 0), (10, .iload_n 1), (11, .invokevirtual 209), (14, .istore 4), (16, .aload_n 0), (17, .iload_n 1), (18, .invokevirtual 206), (21, .ifCond .eq 5), (24, .iconst 0), (25, .ireturn), (26, .iconst 1), (27, .istore 5), (29, .iload 5), (31, .bipush 30), (33, .if_icmp .gt 58), (36, .iload_n 2), (37, .ifCond .le 14), (40, .iload 5), (42, .iload_n 2), (43, .irem), (44, .ifCond .ne 7), (47, .iconst 1), (48, .goto 4), (51, .iconst 0), (52, .istore 6), (54, .iload_n 3), (55, .iload 6), (57, .ifCond .eq 8), (60, .iload 4), (62, .goto 4), (65, .iconst 0), (66, .invokestatic 354), (69, .istore_n 3), (70, .iload_n 3), (71, .aload_n 0), (72, .getfield 53), (75, .iload_n 1), (76, .invokevirtual 324), (79, .if_icmp .lt 6), (82, .iload 5), (84, .ireturn), (85, .iinc 5 1), (88, .goto (-59)), (91, .bipush (-9)), (93, .ireturn)]
set_option maxRecDepth 100000 in
theorem ok_X5_fewestWeeks : jOk md_X5_fewestWeeks tb_X5_fewestWeeks := jOk_of (by decide +kernel)
def md_X5_weeks : MD := (yX5_weeks, cX5_weeks, 3, (some .int), 0, 0)
def tb_X5_weeks : List (Nat × Instr) := [(0, .aload_n 0), (1, .getfield 53), (4, .iload_n 1), (5, .invokevirtual 128), (8, .ifCond .eq 13), (11, .iload_n 2), (12, .ifCond .lt 9), (15, .iload_n 2), (16, .bipush 9), (18, .if_icmp .le 5), (21, .iconst (-1)), (22, .ireturn), (23, .aload_n 0), (24, .iload_n 1), (25, .iload_n 2), (26, .invokevirtual 212), (29, .ireturn)]
set_option maxRecDepth 100000 in
theorem ok_X5_weeks : jOk md_X5_weeks tb_X5_weeks := jOk_of (by decide +kernel)
def md_X5_thwart : MD := (yX5_thwart, cX5_thwart, 5, (some .int), 0, 0)
def tb_X5_thwart : List (Nat × Instr) := [(0, .aload_n 0), (1, .getfield 53), (4, .iload_n 1), (5, .invokevirtual 128), (8, .ifCond .eq 14), (11, .iload_n 2), (12, .iconst 1), (13, .if_icmp .lt 9), (16, .iload_n 2), (17, .bipush 30), (19, .if_icmp .le 5), (22, .iconst (-1)), (23, .ireturn), (24, .bipush 9), (26, .istore_n 3), (27, .iload_n 3), (28, .iconst 1), (29, .if_icmp .lt 32), (32, .aload_n 0), (33, .iload_n 1), (34, .iload_n 3), (35, .invokevirtual 212), (38, .istore 4), (40, .iload 4), (42, .bipush (-9)), (44, .if_icmp .eq 9), (47, .iload 4), (49, .iload_n 2), (50, .if_icmp .le 5), (53, .iload_n 3), (54, .ireturn), (55, .iinc 3 (-1)), (58, .goto (-31)), (61, .bipush (-9)), (63, .ireturn)]
set_option maxRecDepth 100000 in
theorem ok_X5_thwart : jOk md_X5_thwart tb_X5_thwart := jOk_of (by decide +kernel)
def md_X5_reachesThrough : MD := (yX5_reachesThrough, cX5_reachesThrough, 7, (some .boolean), 0, 0)
def tb_X5_reachesThrough : List (Nat × Instr) := [(0, .aload_n 0), (1, .getfield 28), (4, .iload_n 1), (5, .invokevirtual 330), (8, .istore 4), (10, .aload_n 0), (11, .iload_n 1), (12, .invokevirtual 209), (15, .istore 5), (17, .iconst 0), (18, .istore 6), (20, .iload 6), (22, .iload_n 2), (23, .if_icmp .ge 47), (26, .iload 4), (28, .aload_n 0), (29, .getfield 53), (32, .iload_n 1), (33, .invokevirtual 324), (36, .if_icmp .lt 5), (39, .iconst 1), (40, .ireturn), (41, .iload 4), (43, .iload_n 3), (44, .iload 6), (46, .ishr), (47, .iconst 1), (48, .iand), (49, .iconst 1), (50, .if_icmp .ne 8), (53, .iload 5), (55, .goto 4), (58, .iconst 0), (59, .invokestatic 354), (62, .istore 4), (64, .iinc 6 1), (67, .goto (-47)), (70, .iload 4), (72, .aload_n 0), (73, .getfield 53), (76, .iload_n 1), (77, .invokevirtual 324), (80, .if_icmp .lt 7), (83, .iconst 1), (84, .goto 4), (87, .iconst 0), (88, .ireturn)]
set_option maxRecDepth 100000 in
theorem ok_X5_reachesThrough : jOk md_X5_reachesThrough tb_X5_reachesThrough := jOk_of (by decide +kernel)
def md_X5_ways : MD := (yX5_ways, cX5_ways, 7, (some .int), 0, 0)
def tb_X5_ways : List (Nat × Instr) := [(0, .aload_n 0), (1, .getfield 53), (4, .iload_n 1), (5, .invokevirtual 128), (8, .ifCond .eq 13), (11, .iload_n 2), (12, .ifCond .lt 9), (15, .iload_n 2), (16, .bipush 8), (18, .if_icmp .le 5), (21, .iconst (-1)), (22, .ireturn), (23, .iconst 0), (24, .istore_n 3), (25, .bipush (-9)), (27, .istore 4), (29, .iconst 0), (30, .istore 5), (32, .iload 5), (34, .iconst 1), (35, .iload_n 2), (36, .ishl), (37, .if_icmp .ge 51), (40, .aload_n 0), (41, .iload_n 1), (42, .iload_n 2), (43, .iload 5), (45, .invokevirtual 215), (48, .ifCond .eq 6), (51, .goto 31), (54, .iinc 3 1), (57, .iload 5), (59, .invokestatic 148), (62, .istore 6), (64, .iload 4), (66, .bipush (-9)), (68, .if_icmp .eq 10), (71, .iload 6), (73, .iload 4), (75, .if_icmp .ge 7), (78, .iload 6), (80, .istore 4), (82, .iinc 5 1), (85, .goto (-53)), (88, .aload_n 0), (89, .iload 4), (91, .putfield 90), (94, .iload_n 3), (95, .ireturn)]
set_option maxRecDepth 100000 in
theorem ok_X5_ways : jOk md_X5_ways tb_X5_ways := jOk_of (by decide +kernel)
def md_X5_isWish : MD := (yX5_isWish, cX5_isWish, 7, (some .boolean), 0, 0)
def tb_X5_isWish : List (Nat × Instr) := [(0, .aload_n 0), (1, .getfield 28), (4, .iload_n 1), (5, .invokevirtual 178), (8, .istore_n 3), (9, .aload_n 0), (10, .getfield 28), (13, .iload_n 2), (14, .invokevirtual 178), (17, .istore 4), (19, .iload_n 3), (20, .iload_n 2), (21, .if_icmp .eq 9), (24, .iload 4), (26, .iload_n 1), (27, .if_icmp .ne 5), (30, .iconst 0), (31, .ireturn), (32, .iload_n 3), (33, .bipush (-9)), (35, .if_icmp .ne 7), (38, .iconst 0), (39, .goto 22), (42, .aload_n 0), (43, .getfield 53), (46, .iload_n 2), (47, .iload_n 3), (48, .invokevirtual 162), (51, .aload_n 0), (52, .getfield 53), (55, .iload_n 1), (56, .iload_n 3), (57, .invokevirtual 162), (60, .isub), (61, .istore 5), (63, .iload 4), (65, .bipush (-9)), (67, .if_icmp .ne 7), (70, .iconst 0), (71, .goto 24), (74, .aload_n 0), (75, .getfield 53), (78, .iload_n 1), (79, .iload 4), (81, .invokevirtual 162), (84, .aload_n 0), (85, .getfield 53), (88, .iload_n 2), (89, .iload 4), (91, .invokevirtual 162), (94, .isub), (95, .istore 6), (97, .iload 5), (99, .ifCond .gt 20), (102, .iload 6), (104, .ifCond .gt 15), (107, .iload 5), (109, .iload 6), (111, .iadd), (112, .ifCond .ge 7), (115, .iconst 1), (116, .goto 4), (119, .iconst 0), (120, .ireturn)]
set_option maxRecDepth 100000 in
theorem ok_X5_isWish : jOk md_X5_isWish tb_X5_isWish := jOk_of (by decide +kernel)
def md_X5_wishes : MD := (yX5_wishes, cX5_wishes, 5, (some .int), 0, 0)
def tb_X5_wishes : List (Nat × Instr) := [(0, .aload_n 0), (1, .getfield 53), (4, .getfield 127), (7, .ifCond .ne 6), (10, .bipush (-4)), (12, .ireturn), (13, .iconst 0), (14, .istore_n 1), (15, .bipush (-9)), (17, .istore_n 2), (18, .iconst 0), (19, .istore_n 3), (20, .iload_n 3), (21, .aload_n 0), (22, .getfield 53), (25, .getfield 127), (28, .if_icmp .ge 62), (31, .iload_n 3), (32, .iconst 1), (33, .iadd), (34, .istore 4), (36, .iload 4), (38, .aload_n 0), (39, .getfield 53), (42, .getfield 127), (45, .if_icmp .ge 39), (48, .aload_n 0), (49, .iload_n 3), (50, .iload 4), (52, .invokevirtual 219), (55, .ifCond .ne 6), (58, .goto 20), (61, .iinc 1 1), (64, .iload_n 2), (65, .bipush (-9)), (67, .if_icmp .ne 11), (70, .bipush 6), (72, .iload_n 3), (73, .imul), (74, .iload 4), (76, .iadd), (77, .istore_n 2), (78, .iinc 4 1), (81, .goto (-45)), (84, .iinc 3 1), (87, .goto (-67)), (90, .aload_n 0), (91, .iload_n 2), (92, .putfield 90), (95, .iload_n 1), (96, .ireturn)]
set_option maxRecDepth 100000 in
theorem ok_X5_wishes : jOk md_X5_wishes tb_X5_wishes := jOk_of (by decide +kernel)
def md_X5_strengthsIn : MD := (yX5_strengthsIn, cX5_strengthsIn, 5, (some .int), 0, 0)
def tb_X5_strengthsIn : List (Nat × Instr) := [(0, .iconst 0), (1, .istore_n 2), (2, .iconst 0), (3, .istore_n 3), (4, .iload_n 3), (5, .aload_n 0), (6, .getfield 53), (9, .getfield 127), (12, .if_icmp .ge 44), (15, .aload_n 0), (16, .getfield 39), (19, .iload_n 1), (20, .iload_n 3), (21, .invokevirtual 235), (24, .istore 4), (26, .iload_n 2), (27, .iload 4), (29, .bipush (-9)), (31, .if_icmp .ne 7), (34, .iconst 0), (35, .goto 13), (38, .aload_n 0), (39, .getfield 53), (42, .iload_n 3), (43, .iload 4), (45, .invokevirtual 162), (48, .iadd), (49, .istore_n 2), (50, .iinc 3 1), (53, .goto (-49)), (56, .iload_n 2), (57, .ireturn)]
set_option maxRecDepth 100000 in
theorem ok_X5_strengthsIn : jOk md_X5_strengthsIn tb_X5_strengthsIn := jOk_of (by decide +kernel)
def md_X5_mildest : MD := (yX5_mildest, cX5_mildest, 7, (some .int), 0, 0)
def tb_X5_mildest : List (Nat × Instr) := [(0, .aload_n 0), (1, .getfield 11), (4, .iload_n 1), (5, .invokestatic 71), (8, .astore_n 2), (9, .aload_n 2), (10, .ifnonnull 5), (13, .iconst (-1)), (14, .ireturn), (15, .aload_n 0), (16, .getfield 53), (19, .getfield 127), (22, .ifCond .ne 6), (25, .bipush (-4)), (27, .ireturn), (28, .aload_n 0), (29, .getfield 39), (32, .aload_n 0), (33, .getfield 53), (36, .aload_n 0), (37, .getfield 28), (40, .invokevirtual 222), (43, .iconst 1), (44, .invokevirtual 225), (47, .iconst 0), (48, .istore_n 3), (49, .aload_n 0), (50, .iconst 0), (51, .invokevirtual 229), (54, .istore 4), (56, .iconst 1), (57, .istore 5), (59, .iload 5), (61, .aload_n 0), (62, .getfield 39), (65, .getfield 232), (68, .if_icmp .ge 31), (71, .aload_n 0), (72, .iload 5), (74, .invokevirtual 229), (77, .istore 6), (79, .iload 6), (81, .iload 4), (83, .if_icmp .ge 10), (86, .iload 6), (88, .istore 4), (90, .iload 5), (92, .istore_n 3), (93, .iinc 5 1), (96, .goto (-37)), (99, .aload_n 2), (100, .aload_n 0), (101, .getfield 53), (104, .getfield 127), (107, .bipush (-9)), (109, .invokevirtual 79), (112, .iconst 0), (113, .istore 5), (115, .iload 5), (117, .aload_n 0), (118, .getfield 53), (121, .getfield 127), (124, .if_icmp .ge 25), (127, .aload_n 2), (128, .iload 5), (130, .aload_n 0), (131, .getfield 39), (134, .iload_n 3), (135, .iload 5), (137, .invokevirtual 235), (140, .invokevirtual 94), (143, .iinc 5 1), (146, .goto (-31)), (149, .iload 4), (151, .ireturn)]
set_option maxRecDepth 100000 in
theorem ok_X5_mildest : jOk md_X5_mildest tb_X5_mildest := jOk_of (by decide +kernel)
def md_X5_isMapOfNow : MD := (yX5_isMapOfNow, cX5_isMapOfNow, 5, (some .boolean), 0, 0)
def tb_X5_isMapOfNow : List (Nat × Instr) := [(0, .iconst 0), (1, .istore_n 2), (2, .iconst 0), (3, .istore_n 3), (4, .iload_n 3), (5, .aload_n 0), (6, .getfield 53), (9, .getfield 127), (12, .if_icmp .ge 54), (15, .aload_n 1), (16, .iload_n 3), (17, .invokevirtual 87), (20, .istore 4), (22, .iload 4), (24, .bipush (-9)), (26, .if_icmp .ne 6), (29, .goto 31), (32, .aload_n 0), (33, .iload_n 3), (34, .iload 4), (36, .invokevirtual 159), (39, .ifCond .eq 12), (42, .iload_n 2), (43, .iload 4), (45, .invokestatic 197), (48, .ifCond .eq 5), (51, .iconst 0), (52, .ireturn), (53, .iload_n 2), (54, .iconst 1), (55, .iload 4), (57, .ishl), (58, .ior), (59, .istore_n 2), (60, .iinc 3 1), (63, .goto (-59)), (66, .iload_n 2), (67, .aload_n 0), (68, .getfield 28), (71, .invokevirtual 222), (74, .if_icmp .ne 7), (77, .iconst 1), (78, .goto 4), (81, .iconst 0), (82, .ireturn)]
set_option maxRecDepth 100000 in
theorem ok_X5_isMapOfNow : jOk md_X5_isMapOfNow tb_X5_isMapOfNow := jOk_of (by decide +kernel)
def md_X5_none : MD := (yX5_none, cX5_none, 6, (some .int), 0, 0)
def tb_X5_none : List (Nat × Instr) := [(0, .aload_n 0), (1, .getfield 11), (4, .iload_n 1), (5, .invokestatic 71), (8, .astore_n 2), (9, .aload_n 2), (10, .ifnonnull 5), (13, .iconst (-1)), (14, .ireturn), (15, .aload_n 0), (16, .aload_n 2), (17, .invokevirtual 165), (20, .istore_n 3), (21, .iload_n 3), (22, .ifCond .eq 5), (25, .iload_n 3), (26, .ireturn), (27, .aload_n 0), (28, .aload_n 2), (29, .invokevirtual 238), (32, .ifCond .ne 9), (35, .aload_n 0), (36, .iconst 3), (37, .invokevirtual 75), (40, .ireturn), (41, .iconst 0), (42, .istore 4), (44, .iload 4), (46, .aload_n 0), (47, .getfield 53), (50, .getfield 127), (53, .if_icmp .ge 46), (56, .aload_n 2), (57, .iload 4), (59, .invokevirtual 87), (62, .istore 5), (64, .iload 5), (66, .bipush (-9)), (68, .if_icmp .eq 25), (71, .aload_n 0), (72, .getfield 53), (75, .iload 4), (77, .iload 5), (79, .invokevirtual 162), (82, .aload_n 0), (83, .iload 5), (85, .invokevirtual 209), (88, .if_icmp .le 5), (91, .iconst 0), (92, .ireturn), (93, .iinc 4 1), (96, .goto (-52)), (99, .iconst 1), (100, .ireturn)]
set_option maxRecDepth 100000 in
theorem ok_X5_none : jOk md_X5_none tb_X5_none := jOk_of (by decide +kernel)
def md_X5_commonDivisor : MD := (yX5_commonDivisor, cX5_commonDivisor, 11, (some .long), 0, 0)
def tb_X5_commonDivisor : List (Nat × Instr) := [(0, .lload_n 0), (1, .lstore 4), (3, .lload_n 2), (4, .lstore 6), (6, .iconst 0), (7, .istore 8), (9, .iload 8), (11, .bipush 100), (13, .if_icmp .ge 31), (16, .lload 6), (18, .lconst 0), (19, .lcmp), (20, .ifCond .le 24), (23, .lload 4), (25, .lload 6), (27, .lrem), (28, .lstore 9), (30, .lload 6), (32, .lstore 4), (34, .lload 9), (36, .lstore 6), (38, .iinc 8 1), (41, .goto (-32)), (44, .lload 4), (46, .lreturn)]
set_option maxRecDepth 100000 in
theorem ok_X5_commonDivisor : jOk md_X5_commonDivisor tb_X5_commonDivisor := jOk_of (by decide +kernel)
def md_X5_tell : MD := (yX5_tell, cX5_tell, 7, (some .int), 0, 0)
def tb_X5_tell : List (Nat × Instr) := [(0, .lload_n 1), (1, .lload_n 3), (2, .invokestatic 357), (5, .lstore 5), (7, .lload 5), (9, .lconst 0), (10, .lcmp), (11, .ifCond .le 19), (14, .aload_n 0), (15, .lload_n 1), (16, .lload 5), (18, .ldiv), (19, .putfield 279), (22, .aload_n 0), (23, .lload_n 3), (24, .lload 5), (26, .ldiv), (27, .putfield 67), (30, .iconst 1), (31, .ireturn)]
set_option maxRecDepth 100000 in
theorem ok_X5_tell : jOk md_X5_tell tb_X5_tell := jOk_of (by decide +kernel)
def md_X5_maps : MD := (yX5_maps, cX5_maps, 1, (some .int), 0, 0)
def tb_X5_maps : List (Nat × Instr) := [(0, .aload_n 0), (1, .getfield 53), (4, .getfield 127), (7, .ifCond .ne 6), (10, .bipush (-4)), (12, .ireturn), (13, .aload_n 0), (14, .getfield 39), (17, .aload_n 0), (18, .getfield 53), (21, .aload_n 0), (22, .getfield 53), (25, .invokevirtual 242), (28, .iconst 0), (29, .invokevirtual 225), (32, .aload_n 0), (33, .aload_n 0), (34, .getfield 39), (37, .getfield 232), (40, .i2l), (41, .lconst 1), (42, .invokevirtual 245), (45, .ireturn)]
set_option maxRecDepth 100000 in
theorem ok_X5_maps : jOk md_X5_maps tb_X5_maps := jOk_of (by decide +kernel)
def md_X5_refuseDraw : MD := (yX5_refuseDraw, cX5_refuseDraw, 3, (some .int), 0, 0)
def tb_X5_refuseDraw : List (Nat × Instr) := [(0, .aload_n 0), (1, .iload_n 1), (2, .iload_n 2), (3, .invokevirtual 159), (6, .ifCond .ne 5), (9, .iconst (-1)), (10, .ireturn), (11, .aload_n 0), (12, .getfield 39), (15, .aload_n 0), (16, .getfield 53), (19, .aload_n 0), (20, .getfield 53), (23, .invokevirtual 242), (26, .iconst 0), (27, .invokevirtual 225), (30, .aload_n 0), (31, .getfield 39), (34, .getfield 232), (37, .ifCond .ne 11), (40, .aload_n 0), (41, .iconst 4), (42, .invokevirtual 75), (45, .goto 4), (48, .iconst 0), (49, .ireturn)]
set_option maxRecDepth 100000 in
theorem ok_X5_refuseDraw : jOk md_X5_refuseDraw tb_X5_refuseDraw := jOk_of (by decide +kernel)
def md_X5_odds : MD := (yX5_odds, cX5_odds, 4, (some .int), 0, 0)
def tb_X5_odds : List (Nat × Instr) := [(0, .aload_n 0), (1, .iload_n 1), (2, .iload_n 2), (3, .invokevirtual 249), (6, .istore_n 3), (7, .iload_n 3), (8, .ifCond .eq 7), (11, .iload_n 3), (12, .goto 25), (15, .aload_n 0), (16, .aload_n 0), (17, .getfield 39), (20, .iload_n 1), (21, .iload_n 2), (22, .invokevirtual 252), (25, .i2l), (26, .aload_n 0), (27, .getfield 39), (30, .getfield 232), (33, .i2l), (34, .invokevirtual 245), (37, .ireturn)]
set_option maxRecDepth 100000 in
theorem ok_X5_odds : jOk md_X5_odds tb_X5_odds := jOk_of (by decide +kernel)
end
section
def md_X5_both : MD := (yX5_both, cX5_both, 4, (some .int), 0, 0)
def tb_X5_both : List (Nat × Instr) := [(0, .aload_n 0), (1, .iload_n 1), (2, .iload_n 2), (3, .invokevirtual 249), (6, .istore_n 3), (7, .iload_n 3), (8, .ifCond .eq 7), (11, .iload_n 3), (12, .goto 25), (15, .aload_n 0), (16, .aload_n 0), (17, .getfield 39), (20, .iload_n 1), (21, .iload_n 2), (22, .invokevirtual 255), (25, .i2l), (26, .aload_n 0), (27, .getfield 39), (30, .getfield 232), (33, .i2l), (34, .invokevirtual 245), (37, .ireturn)]
set_option maxRecDepth 100000 in
theorem ok_X5_both : jOk md_X5_both tb_X5_both := jOk_of (by decide +kernel)
def md_X5_refuseWeeks : MD := (yX5_refuseWeeks, cX5_refuseWeeks, 4, (some .int), 0, 0)
def tb_X5_refuseWeeks : List (Nat × Instr) := [(0, .aload_n 0), (1, .aload_n 1), (2, .invokevirtual 318), (5, .istore_n 2), (6, .iload_n 2), (7, .ifCond .eq 5), (10, .iload_n 2), (11, .ireturn), (12, .aload_n 1), (13, .getfield 112), (16, .iconst 2), (17, .irem), (18, .ifCond .eq 9), (21, .aload_n 0), (22, .iconst 5), (23, .invokevirtual 75), (26, .ireturn), (27, .iconst 0), (28, .istore_n 3), (29, .iload_n 3), (30, .aload_n 1), (31, .getfield 112), (34, .if_icmp .ge 38), (37, .aload_n 1), (38, .iload_n 3), (39, .invokevirtual 87), (42, .ifCond .lt 18), (45, .aload_n 1), (46, .iload_n 3), (47, .invokevirtual 87), (50, .aload_n 0), (51, .getfield 53), (54, .invokevirtual 242), (57, .if_icmp .le 9), (60, .aload_n 0), (61, .iconst 3), (62, .invokevirtual 75), (65, .ireturn), (66, .iinc 3 1), (69, .goto (-40)), (72, .iconst 0), (73, .ireturn)]
set_option maxRecDepth 100000 in
theorem ok_X5_refuseWeeks : jOk md_X5_refuseWeeks tb_X5_refuseWeeks := jOk_of (by decide +kernel)
def md_X5_seekFits : MD := (yX5_seekFits, cX5_seekFits, 3, none, 0, 0)
def tb_X5_seekFits : List (Nat × Instr) := [(0, .aload_n 0), (1, .getfield 39), (4, .aload_n 0), (5, .getfield 53), (8, .aload_n 0), (9, .getfield 53), (12, .invokevirtual 242), (15, .iconst 1), (16, .invokevirtual 225), (19, .iconst 0), (20, .istore_n 2), (21, .iload_n 2), (22, .iconst 1), (23, .iadd), (24, .aload_n 1), (25, .getfield 112), (28, .if_icmp .ge 28), (31, .aload_n 0), (32, .getfield 39), (35, .aload_n 1), (36, .iload_n 2), (37, .invokevirtual 87), (40, .aload_n 1), (41, .iload_n 2), (42, .iconst 1), (43, .iadd), (44, .invokevirtual 87), (47, .invokevirtual 361), (50, .iinc 2 2), (53, .goto (-32)), (56, .return_)]
set_option maxRecDepth 100000 in
theorem ok_X5_seekFits : jOk md_X5_seekFits tb_X5_seekFits := jOk_of (by decide +kernel)
def md_X5_fits : MD := (yX5_fits, cX5_fits, 4, (some .int), 0, 0)
def tb_X5_fits : List (Nat × Instr) := [(0, .aload_n 0), (1, .getfield 11), (4, .iload_n 1), (5, .invokestatic 71), (8, .astore_n 2), (9, .aload_n 2), (10, .ifnonnull 5), (13, .iconst (-1)), (14, .ireturn), (15, .aload_n 0), (16, .aload_n 2), (17, .invokevirtual 258), (20, .istore_n 3), (21, .iload_n 3), (22, .ifCond .eq 5), (25, .iload_n 3), (26, .ireturn), (27, .aload_n 0), (28, .aload_n 2), (29, .invokevirtual 261), (32, .aload_n 0), (33, .aload_n 0), (34, .getfield 39), (37, .getfield 232), (40, .i2l), (41, .lconst 1), (42, .invokevirtual 245), (45, .ireturn)]
set_option maxRecDepth 100000 in
theorem ok_X5_fits : jOk md_X5_fits tb_X5_fits := jOk_of (by decide +kernel)
def md_X5_refuseFits : MD := (yX5_refuseFits, cX5_refuseFits, 3, (some .int), 0, 0)
def tb_X5_refuseFits : List (Nat × Instr) := [(0, .aload_n 0), (1, .aload_n 1), (2, .invokevirtual 258), (5, .istore_n 2), (6, .iload_n 2), (7, .ifCond .eq 5), (10, .iload_n 2), (11, .ireturn), (12, .aload_n 0), (13, .aload_n 1), (14, .invokevirtual 261), (17, .aload_n 0), (18, .getfield 39), (21, .getfield 232), (24, .ifCond .ne 11), (27, .aload_n 0), (28, .iconst 4), (29, .invokevirtual 75), (32, .goto 4), (35, .iconst 0), (36, .ireturn)]
set_option maxRecDepth 100000 in
theorem ok_X5_refuseFits : jOk md_X5_refuseFits tb_X5_refuseFits := jOk_of (by decide +kernel)
def md_X5_sure : MD := (yX5_sure, cX5_sure, 6, (some .int), 0, 0)
def tb_X5_sure : List (Nat × Instr) := [(0, .aload_n 0), (1, .getfield 11), (4, .iload_n 2), (5, .invokestatic 71), (8, .astore_n 3), (9, .aload_n 3), (10, .ifnull 14), (13, .aload_n 0), (14, .getfield 53), (17, .iload_n 1), (18, .invokevirtual 128), (21, .ifCond .ne 5), (24, .iconst (-1)), (25, .ireturn), (26, .aload_n 0), (27, .aload_n 3), (28, .invokevirtual 265), (31, .istore 4), (33, .iload 4), (35, .ifCond .eq 6), (38, .iload 4), (40, .ireturn), (41, .aload_n 0), (42, .getfield 39), (45, .iconst 0), (46, .iload_n 1), (47, .invokevirtual 235), (50, .istore 5), (52, .aload_n 0), (53, .getfield 39), (56, .iload_n 1), (57, .iload 5), (59, .invokevirtual 252), (62, .aload_n 0), (63, .getfield 39), (66, .getfield 232), (69, .if_icmp .ne 8), (72, .iload 5), (74, .goto 5), (77, .bipush (-9)), (79, .ireturn)]
set_option maxRecDepth 100000 in
theorem ok_X5_sure : jOk md_X5_sure tb_X5_sure := jOk_of (by decide +kernel)
def md_X5_ask : MD := (yX5_ask, cX5_ask, 8, (some .int), 0, 0)
def tb_X5_ask : List (Nat × Instr) := [(0, .aload_n 0), (1, .getfield 11), (4, .iload_n 1), (5, .invokestatic 71), (8, .astore_n 2), (9, .aload_n 2), (10, .ifnonnull 5), (13, .iconst (-1)), (14, .ireturn), (15, .aload_n 0), (16, .aload_n 2), (17, .invokevirtual 265), (20, .istore_n 3), (21, .iload_n 3), (22, .ifCond .eq 5), (25, .iload_n 3), (26, .ireturn), (27, .iconst 0), (28, .istore 4), (30, .aload_n 0), (31, .getfield 39), (34, .iconst 0), (35, .invokevirtual 268), (38, .istore 5), (40, .iconst 1), (41, .istore 6), (43, .iload 6), (45, .aload_n 0), (46, .getfield 53), (49, .invokevirtual 242), (52, .if_icmp .gt 35), (55, .aload_n 0), (56, .getfield 39), (59, .iload 6), (61, .invokevirtual 268), (64, .istore 7), (66, .iload 7), (68, .iload 5), (70, .if_icmp .ge 11), (73, .iload 7), (75, .istore 5), (77, .iload 6), (79, .istore 4), (81, .iinc 6 1), (84, .goto (-41)), (87, .aload_n 0), (88, .iload 5), (90, .putfield 90), (93, .iload 4), (95, .ireturn)]
set_option maxRecDepth 100000 in
theorem ok_X5_ask : jOk md_X5_ask tb_X5_ask := jOk_of (by decide +kernel)
def md_X5_actByLot : MD := (yX5_actByLot, cX5_actByLot, 5, (some .int), 0, 0)
def tb_X5_actByLot : List (Nat × Instr) := [(0, .lload_n 2), (1, .ldc2_w 350), (4, .ldiv), (5, .ldc2_w 352), (8, .lrem), (9, .l2i), (10, .istore 4), (12, .iload 4), (14, .iconst 2), (15, .if_icmp .ne 20), (18, .aload_n 0), (19, .getfield 28), (22, .iload_n 1), (23, .invokevirtual 178), (26, .bipush (-9)), (28, .if_icmp .ne 7), (31, .iconst 1), (32, .goto 5), (35, .iload 4), (37, .ireturn)]
set_option maxRecDepth 100000 in
theorem ok_X5_actByLot : jOk md_X5_actByLot tb_X5_actByLot := jOk_of (by decide +kernel)
def md_X5_lots : MD := (yX5_lots, cX5_lots, 8, (some .int), 0, 0)
def tb_X5_lots : List (Nat × Instr) := [(0, .iload_n 1), (1, .iconst 1), (2, .if_icmp .lt 23), (5, .iload_n 1), (6, .bipush 20), (8, .if_icmp .gt 17), (11, .iload_n 2), (12, .iconst 1), (13, .if_icmp .lt 12), (16, .iload_n 2), (17, .i2l), (18, .ldc2_w 271), (21, .lcmp), (22, .ifCond .lt 5), (25, .iconst (-1)), (26, .ireturn), (27, .aload_n 0), (28, .getfield 53), (31, .getfield 127), (34, .ifCond .ne 6), (37, .bipush (-4)), (39, .ireturn), (40, .aload_n 0), (41, .getfield 28), (44, .getfield 172), (47, .iload_n 1), (48, .iadd), (49, .bipush 40), (51, .if_icmp .le 6), (54, .bipush (-2)), (56, .ireturn), (57, .iload_n 2), (58, .i2l), (59, .lstore_n 3), (60, .iconst 0), (61, .istore 5), (63, .iconst 0), (64, .istore 6), (66, .iload 6), (68, .iload_n 1), (69, .if_icmp .ge 70), (72, .iconst 0), (73, .istore 7), (75, .iload 7), (77, .aload_n 0), (78, .getfield 53), (81, .getfield 127), (84, .if_icmp .ge 40), (87, .iload 7), (89, .bipush 6), (91, .if_icmp .ge 33), (94, .lload_n 3), (95, .ldc2_w 273), (98, .lmul), (99, .ldc2_w 271), (102, .lrem), (103, .lstore_n 3), (104, .aload_n 0), (105, .getfield 43), (108, .iload 7), (110, .aload_n 0), (111, .iload 7), (113, .lload_n 3), (114, .invokevirtual 275), (117, .iastore), (118, .iinc 7 1), (121, .goto (-46)), (124, .iload 5), (126, .aload_n 0), (127, .invokevirtual 175), (130, .iadd), (131, .istore 5), (133, .iinc 6 1), (136, .goto (-70)), (139, .iload 5), (141, .ireturn)]
set_option maxRecDepth 100000 in
theorem ok_X5_lots : jOk md_X5_lots tb_X5_lots := jOk_of (by decide +kernel)
def md_X5_asked : MD := (yX5_asked, cX5_asked, 1, (some .int), 0, 0)
def tb_X5_asked : List (Nat × Instr) := [(0, .aload_n 0), (1, .getfield 90), (4, .ireturn)]
set_option maxRecDepth 100000 in
theorem ok_X5_asked : jOk md_X5_asked tb_X5_asked := jOk_of (by decide +kernel)
def md_X5_upper : MD := (yX5_upper, cX5_upper, 1, (some .long), 0, 0)
def tb_X5_upper : List (Nat × Instr) := [(0, .aload_n 0), (1, .getfield 279), (4, .lreturn)]
set_option maxRecDepth 100000 in
theorem ok_X5_upper : jOk md_X5_upper tb_X5_upper := jOk_of (by decide +kernel)
def md_X5_lower : MD := (yX5_lower, cX5_lower, 1, (some .long), 0, 0)
def tb_X5_lower : List (Nat × Instr) := [(0, .aload_n 0), (1, .getfield 67), (4, .lreturn)]
set_option maxRecDepth 100000 in
theorem ok_X5_lower : jOk md_X5_lower tb_X5_lower := jOk_of (by decide +kernel)
def md_X5_allFines : MD := (yX5_allFines, cX5_allFines, 3, (some .int), 0, 0)
def tb_X5_allFines : List (Nat × Instr) := [(0, .iconst 0), (1, .istore_n 1), (2, .iconst 0), (3, .istore_n 2), (4, .iload_n 2), (5, .aload_n 0), (6, .getfield 53), (9, .getfield 127), (12, .if_icmp .ge 20), (15, .iload_n 1), (16, .aload_n 0), (17, .getfield 28), (20, .iload_n 2), (21, .invokevirtual 333), (24, .iadd), (25, .istore_n 1), (26, .iinc 2 1), (29, .goto (-25)), (32, .iload_n 1), (33, .ireturn)]
set_option maxRecDepth 100000 in
theorem ok_X5_allFines : jOk md_X5_allFines tb_X5_allFines := jOk_of (by decide +kernel)
def md_X5_keptTowns : MD := (yX5_keptTowns, cX5_keptTowns, 6, (some .int), 0, 0)
def tb_X5_keptTowns : List (Nat × Instr) := [(0, .iconst 0), (1, .istore_n 1), (2, .aload_n 0), (3, .getfield 32), (6, .astore_n 2), (7, .aload_n 2), (8, .arraylength), (9, .istore_n 3), (10, .iconst 0), (11, .istore 4), (13, .iload 4), (15, .iload_n 3), (16, .if_icmp .ge 26), (19, .aload_n 2), (20, .iload 4), (22, .aaload), (23, .astore 5), (25, .aload 5), (27, .getfield 123), (30, .ifCond .eq 6), (33, .iinc 1 1), (36, .iinc 4 1), (39, .goto (-26)), (42, .iload_n 1), (43, .ireturn)]
set_option maxRecDepth 100000 in
theorem ok_X5_keptTowns : jOk md_X5_keptTowns tb_X5_keptTowns := jOk_of (by decide +kernel)
def md_X5_present : MD := (yX5_present, cX5_present, 6, (some .int), 0, 0)
def tb_X5_present : List (Nat × Instr) := [(0, .iconst 0), (1, .istore_n 1), (2, .aload_n 0), (3, .astore_n 2), (4, .aload_n 2), (5, .arraylength), (6, .istore_n 3), (7, .iconst 0), (8, .istore 4), (10, .iload 4), (12, .iload_n 3), (13, .if_icmp .ge 26), (16, .aload_n 2), (17, .iload 4), (19, .aaload), (20, .astore 5), (22, .aload 5), (24, .invokevirtual 97), (27, .ifCond .ne 6), (30, .iinc 1 1), (33, .iinc 4 1), (36, .goto (-26)), (39, .iload_n 1), (40, .ireturn)]
set_option maxRecDepth 100000 in
theorem ok_X5_present : jOk md_X5_present tb_X5_present := jOk_of (by decide +kernel)
def md_X5_zealots : MD := (yX5_zealots, cX5_zealots, 3, (some .int), 0, 0)
def tb_X5_zealots : List (Nat × Instr) := [(0, .iconst 0), (1, .istore_n 1), (2, .iconst 0), (3, .istore_n 2), (4, .iload_n 2), (5, .aload_n 0), (6, .getfield 53), (9, .getfield 127), (12, .if_icmp .ge 24), (15, .aload_n 0), (16, .getfield 53), (19, .iload_n 2), (20, .iconst 1), (21, .invokevirtual 136), (24, .ifCond .eq 6), (27, .iinc 1 1), (30, .iinc 2 1), (33, .goto (-29)), (36, .iload_n 1), (37, .ireturn)]
set_option maxRecDepth 100000 in
theorem ok_X5_zealots : jOk md_X5_zealots tb_X5_zealots := jOk_of (by decide +kernel)
def md_X5_count : MD := (yX5_count, cX5_count, 2, (some .int), 0, 0)
def tb_X5_count : List (Nat × Instr) := [(0, .iload_n 1), (56, .aload_n 0), (57, .getfield 53), (60, .getfield 127), (63, .ireturn), (64, .aload_n 0), (65, .getfield 28), (68, .invokevirtual 222), (71, .invokestatic 148), (74, .ireturn), (75, .aload_n 0), (76, .getfield 53), (79, .getfield 282), (82, .ireturn), (83, .aload_n 0), (84, .getfield 28), (87, .getfield 172), (90, .ireturn), (91, .aload_n 0), (92, .invokevirtual 285), (95, .invokestatic 148), (98, .ireturn), (99, .aload_n 0), (100, .invokevirtual 288), (103, .ireturn), (104, .aload_n 0), (105, .invokevirtual 291), (108, .ireturn), (109, .aload_n 0), (110, .getfield 11), (113, .invokestatic 294), (116, .ireturn), (117, .aload_n 0), (118, .getfield 15), (121, .invokestatic 294), (124, .ireturn), (125, .aload_n 0), (126, .invokevirtual 298), (129, .ireturn), (130, .iconst (-1)), (131, .ireturn)]
set_option maxRecDepth 100000 in
theorem ok_X5_count : jOk md_X5_count tb_X5_count := jOk_of (by decide +kernel)
def md_X5_finding : MD := (yX5_finding, cX5_finding, 1, (some .int), 0, 0)
def tb_X5_finding : List (Nat × Instr) := [(0, .aload_n 0), (1, .getfield 301), (4, .ireturn)]
set_option maxRecDepth 100000 in
theorem ok_X5_finding : jOk md_X5_finding tb_X5_finding := jOk_of (by decide +kernel)
def md_X5_findings : MD := (yX5_findings, cX5_findings, 2, (some .int), 0, 0)
def tb_X5_findings : List (Nat × Instr) := [(0, .iload_n 1), (1, .iconst 1), (2, .if_icmp .lt 8), (5, .iload_n 1), (6, .iconst 5), (7, .if_icmp .le 7), (10, .iconst (-1)), (11, .goto 9), (14, .aload_n 0), (15, .getfield 47), (18, .iload_n 1), (19, .iaload), (20, .ireturn)]
set_option maxRecDepth 100000 in
theorem ok_X5_findings : jOk md_X5_findings tb_X5_findings := jOk_of (by decide +kernel)
def md_X5_digest : MD := (yX5_digest, cX5_digest, 7, (some .long), 0, 0)
def tb_X5_digest : List (Nat × Instr) := [(0, .ldc2_w 304), (3, .lstore_n 1), (4, .iconst 0), (5, .istore_n 3), (6, .iload_n 3), (7, .bipush 10), (9, .if_icmp .ge 22), (12, .ldc2_w 306), (15, .lload_n 1), (16, .lmul), (17, .aload_n 0), (18, .iload_n 3), (19, .invokevirtual 308), (22, .i2l), (23, .ladd), (24, .lstore_n 1), (25, .iinc 3 1), (28, .goto (-22)), (31, .iconst 0), (32, .istore_n 3), (33, .iload_n 3), (34, .aload_n 0), (35, .getfield 53), (38, .getfield 127), (41, .if_icmp .ge 40), (44, .iconst 0), (45, .istore 4), (47, .iload 4), (49, .bipush 9), (51, .if_icmp .ge 24), (54, .ldc2_w 306), (57, .lload_n 1), (58, .lmul), (59, .aload_n 0), (60, .iload_n 3), (61, .iload 4), (63, .invokevirtual 132), (66, .i2l), (67, .ladd), (68, .lstore_n 1), (69, .iinc 4 1), (72, .goto (-25)), (75, .iinc 3 1), (78, .goto (-45)), (81, .aload_n 0), (82, .getfield 32), (85, .astore_n 3), (86, .aload_n 3), (87, .arraylength), (88, .istore 4), (90, .iconst 0), (91, .istore 5), (93, .iload 5), (95, .iload 4), (97, .if_icmp .ge 40), (100, .aload_n 3), (101, .iload 5), (103, .aaload), (104, .astore 6), (106, .ldc2_w 306), (109, .lload_n 1), (110, .lmul), (111, .aload 6), (113, .getfield 123), (116, .ifCond .eq 11), (119, .aload 6), (121, .getfield 172), (124, .goto 4), (127, .iconst (-1)), (128, .i2l), (129, .ladd), (130, .lstore_n 1), (131, .iinc 5 1), (134, .goto (-41)), (137, .aload_n 0), (138, .getfield 11), (141, .astore_n 3), (142, .aload_n 3), (143, .arraylength), (144, .istore 4), (146, .iconst 0), (147, .istore 5), (149, .iload 5), (151, .iload 4), (153, .if_icmp .ge 22), (156, .aload_n 3), (157, .iload 5), (159, .aaload), (160, .astore 6), (162, .aload 6), (164, .lload_n 1), (165, .invokevirtual 311), (168, .lstore_n 1), (169, .iinc 5 1), (172, .goto (-23)), (175, .aload_n 0), (176, .getfield 15), (179, .astore_n 3), (180, .aload_n 3), (181, .arraylength), (182, .istore 4), (184, .iconst 0), (185, .istore 5), (187, .iload 5), (189, .iload 4), (191, .if_icmp .ge 22), (194, .aload_n 3), (195, .iload 5), (197, .aaload), (198, .astore 6), (200, .aload 6), (202, .lload_n 1), (203, .invokevirtual 311), (206, .lstore_n 1), (207, .iinc 5 1), (210, .goto (-23)), (213, .lload_n 1), (214, .lreturn)]
set_option maxRecDepth 100000 in
theorem ok_X5_digest : jOk md_X5_digest tb_X5_digest := jOk_of (by decide +kernel)
def md_X6_init : MD := (yX6_init, cX6_init, 2, none, 16, 4017)
def tb_X6_init : List (Nat × Instr) := [(0, .aload_n 0), (1, .invokespecial 1), (4, .aload_n 0), (5, .sipush 3120), (8, .newarray .int), (10, .putfield 7), (13, .aload_n 0), (14, .bipush 6), (16, .newarray .int), (18, .putfield 13), (21, .aload_n 0), (22, .bipush 6), (24, .newarray .int), (26, .putfield 16), (29, .aload_n 0), (30, .bipush 6), (32, .newarray .int), (34, .putfield 19), (37, .aload_n 0), (38, .bipush 6), (40, .newarray .int), (42, .putfield 22), (45, .aload_n 0), (46, .bipush 6), (48, .newarray .int), (50, .dup), (51, .iconst 0), (52, .iconst (-1)), (53, .iastore), (54, .dup), (55, .iconst 1), (56, .iconst (-1)), (57, .iastore), (58, .dup), (59, .iconst 2), (60, .iconst (-1)), (61, .iastore), (62, .dup), (63, .iconst 3), (64, .iconst (-1)), (65, .iastore), (66, .dup), (67, .iconst 4), (68, .iconst (-1)), (69, .iastore), (70, .dup), (71, .iconst 5), (72, .iconst (-1)), (73, .iastore), (74, .putfield 25), (77, .aload_n 0), (78, .sipush 240), (81, .newarray .int), (83, .putfield 28), (86, .aload_n 0), (87, .iconst 4), (88, .newarray .int), (90, .dup), (91, .iconst 0), (92, .iconst (-1)), (93, .iastore), (94, .dup), (95, .iconst 1), (96, .iconst (-1)), (97, .iastore), (98, .dup), (99, .iconst 2), (100, .iconst (-1)), (101, .iastore), (102, .dup), (103, .iconst 3), (104, .iconst (-1)), (105, .iastore), (106, .putfield 31), (109, .aload_n 0), (110, .sipush 240), (113, .newarray .int), (115, .putfield 34), (118, .aload_n 0), (119, .lconst 1), (120, .putfield 37), (123, .aload_n 0), (124, .bipush 6), (126, .newarray .int), (128, .putfield 41), (131, .aload_n 0), (132, .bipush 30), (134, .newarray .int), (136, .putfield 44), (139, .aload_n 0), (140, .bipush 6), (142, .newarray .int), (144, .putfield 47), (147, .aload_n 0), (148, .bipush 6), (150, .newarray .int), (152, .putfield 50), (155, .aload_n 0), (156, .bipush 6), (158, .newarray .int), (160, .putfield 53), (163, .aload_n 0), (164, .sipush 265), (167, .newarray .int), (169, .putfield 56), (172, .aload_n 0), (173, .bipush 64), (175, .newarray .int), (177, .putfield 59), (180, .iconst 1), (181, .istore_n 1), (182, .iload_n 1), (183, .iconst 4), (184, .if_icmp .ge 22), (187, .aload_n 0), (188, .getfield 7), (191, .sipush 780), (194, .iload_n 1), (195, .imul), (196, .iconst 0), (197, .iadd), (198, .iconst (-1)), (199, .iastore), (200, .iinc 1 1), (203, .goto (-21)), (206, .return_)]
set_option maxRecDepth 100000 in
theorem ok_X6_init : jOk md_X6_init tb_X6_init := jOk_of (by decide +kernel)
def md_X6_bits : MD := (yX6_bits, cX6_bits, 3, (some .int), 0, 0)
def tb_X6_bits : List (Nat × Instr) := [(0, .iconst 0), (1, .istore_n 1), (2, .iconst 0), (3, .istore_n 2), (4, .iload_n 2), (5, .bipush 6), (7, .if_icmp .ge 17), (10, .iload_n 1), (11, .iload_n 0), (12, .iload_n 2), (13, .ishr), (14, .iconst 1), (15, .iand), (16, .iadd), (17, .istore_n 1), (18, .iinc 2 1), (21, .goto (-17)), (24, .iload_n 1), (25, .ireturn)]
set_option maxRecDepth 100000 in
theorem ok_X6_bits : jOk md_X6_bits tb_X6_bits := jOk_of (by decide +kernel)
def md_X6_in : MD := (yX6_in, cX6_in, 6, (some .boolean), 0, 0)
def tb_X6_in : List (Nat × Instr) := [(0, .lload_n 0), (1, .lload_n 2), (2, .lcmp), (3, .ifCond .lt 14), (6, .lload_n 0), (7, .lload 4), (9, .lcmp), (10, .ifCond .gt 7), (13, .iconst 1), (14, .goto 4), (17, .iconst 0), (18, .ireturn)]
set_option maxRecDepth 100000 in
theorem ok_X6_in : jOk md_X6_in tb_X6_in := jOk_of (by decide +kernel)
def md_X6_has : MD := (yX6_has, cX6_has, 2, (some .boolean), 0, 0)
def tb_X6_has : List (Nat × Instr) := [(0, .iload_n 0), (1, .iload_n 1), (2, .ishr), (3, .iconst 1), (4, .iand), (5, .iconst 1), (6, .if_icmp .ne 7), (9, .iconst 1), (10, .goto 4), (13, .iconst 0), (14, .ireturn)]
set_option maxRecDepth 100000 in
theorem ok_X6_has : jOk md_X6_has tb_X6_has := jOk_of (by decide +kernel)
def md_X6_find : MD := (yX6_find, cX6_find, 2, (some .int), 0, 0)
def tb_X6_find : List (Nat × Instr) := [(0, .aload_n 0), (1, .iload_n 1), (2, .putfield 62), (5, .aload_n 0), (6, .getfield 41), (9, .iload_n 1), (10, .dup2), (11, .iaload), (12, .iconst 1), (13, .iadd), (14, .iastore), (15, .bipush (-3)), (17, .ireturn)]
set_option maxRecDepth 100000 in
theorem ok_X6_find : jOk md_X6_find tb_X6_find := jOk_of (by decide +kernel)
def md_X6_tell : MD := (yX6_tell, cX6_tell, 2, (some .int), 0, 0)
def tb_X6_tell : List (Nat × Instr) := [(0, .aload_n 0), (1, .iload_n 1), (2, .putfield 66), (5, .iconst 1), (6, .ireturn)]
set_option maxRecDepth 100000 in
theorem ok_X6_tell : jOk md_X6_tell tb_X6_tell := jOk_of (by decide +kernel)
def md_X6_isRow : MD := (yX6_isRow, cX6_isRow, 1, (some .boolean), 0, 0)
def tb_X6_isRow : List (Nat × Instr) := [(0, .iload_n 0), (1, .i2l), (2, .lconst 0), (3, .ldc2_w 69), (6, .invokestatic 71), (9, .ireturn)]
set_option maxRecDepth 100000 in
theorem ok_X6_isRow : jOk md_X6_isRow tb_X6_isRow := jOk_of (by decide +kernel)
def md_X6_isText : MD := (yX6_isText, cX6_isText, 1, (some .boolean), 0, 0)
def tb_X6_isText : List (Nat × Instr) := [(0, .iload_n 0), (1, .i2l), (2, .lconst 0), (3, .ldc2_w 75), (6, .invokestatic 71), (9, .ireturn)]
set_option maxRecDepth 100000 in
theorem ok_X6_isText : jOk md_X6_isText tb_X6_isText := jOk_of (by decide +kernel)
def md_X6_makeRow : MD := (yX6_makeRow, cX6_makeRow, 4, none, 0, 0)
def tb_X6_makeRow : List (Nat × Instr) := [(0, .aload_n 0), (1, .getfield 25), (4, .iload_n 1), (5, .iload_n 2), (6, .iastore), (7, .iconst 0), (8, .istore_n 3), (9, .iload_n 3), (10, .bipush 40), (12, .if_icmp .ge 21), (15, .aload_n 0), (16, .getfield 28), (19, .bipush 40), (21, .iload_n 1), (22, .imul), (23, .iload_n 3), (24, .iadd), (25, .iconst 0), (26, .iastore), (27, .iinc 3 1), (30, .goto (-21)), (33, .return_)]
set_option maxRecDepth 100000 in
theorem ok_X6_makeRow : jOk md_X6_makeRow tb_X6_makeRow := jOk_of (by decide +kernel)
def md_X6_row : MD := (yX6_row, cX6_row, 3, (some .int), 0, 0)
def tb_X6_row : List (Nat × Instr) := [(0, .iload_n 1), (1, .invokestatic 77), (4, .ifCond .eq 9), (7, .iload_n 2), (8, .bipush 40), (10, .if_icmp .le 5), (13, .iconst (-1)), (14, .ireturn), (15, .iload_n 2), (16, .ifCond .ge 9), (19, .aload_n 0), (20, .iconst 5), (21, .invokevirtual 81), (24, .ireturn), (25, .aload_n 0), (26, .iload_n 1), (27, .iload_n 2), (28, .invokevirtual 85), (31, .iload_n 2), (32, .ireturn)]
set_option maxRecDepth 100000 in
theorem ok_X6_row : jOk md_X6_row tb_X6_row := jOk_of (by decide +kernel)
def md_X6_refused : MD := (yX6_refused, cX6_refused, 3, (some .int), 0, 0)
def tb_X6_refused : List (Nat × Instr) := [(0, .iload_n 1), (1, .invokestatic 77), (4, .ifCond .ne 7), (7, .iconst (-1)), (8, .goto 47), (11, .aload_n 0), (12, .getfield 25), (15, .iload_n 1), (16, .iaload), (17, .ifCond .ge 11), (20, .aload_n 0), (21, .iconst 1), (22, .invokevirtual 81), (25, .goto 30), (28, .iload_n 2), (29, .i2l), (30, .lconst 0), (31, .aload_n 0), (32, .getfield 25), (35, .iload_n 1), (36, .iaload), (37, .iconst 1), (38, .isub), (39, .i2l), (40, .invokestatic 71), (43, .ifCond .eq 7), (46, .iconst 0), (47, .goto 8), (50, .aload_n 0), (51, .iconst 2), (52, .invokevirtual 81), (55, .ireturn)]
set_option maxRecDepth 100000 in
theorem ok_X6_refused : jOk md_X6_refused tb_X6_refused := jOk_of (by decide +kernel)
def md_X6_lay : MD := (yX6_lay, cX6_lay, 6, (some .int), 0, 0)
def tb_X6_lay : List (Nat × Instr) := [(0, .aload_n 0), (1, .iload_n 1), (2, .iload_n 2), (3, .invokevirtual 89), (6, .istore 4), (8, .iload 4), (10, .ifCond .eq 6), (13, .iload 4), (15, .ireturn), (16, .aload_n 0), (17, .getfield 28), (20, .bipush 40), (22, .iload_n 1), (23, .imul), (24, .iload_n 2), (25, .iadd), (26, .iaload), (27, .istore 5), (29, .aload_n 0), (30, .getfield 28), (33, .bipush 40), (35, .iload_n 1), (36, .imul), (37, .iload_n 2), (38, .iadd), (39, .iload_n 3), (40, .iastore), (41, .aload_n 0), (42, .iload 5), (44, .invokevirtual 93), (47, .ireturn)]
set_option maxRecDepth 100000 in
theorem ok_X6_lay : jOk md_X6_lay tb_X6_lay := jOk_of (by decide +kernel)
def md_X6_at : MD := (yX6_at, cX6_at, 4, (some .int), 0, 0)
def tb_X6_at : List (Nat × Instr) := [(0, .aload_n 0), (1, .iload_n 1), (2, .iload_n 2), (3, .invokevirtual 89), (6, .istore_n 3), (7, .iload_n 3), (8, .ifCond .eq 7), (11, .iload_n 3), (12, .goto 18), (15, .aload_n 0), (16, .aload_n 0), (17, .getfield 28), (20, .bipush 40), (22, .iload_n 1), (23, .imul), (24, .iload_n 2), (25, .iadd), (26, .iaload), (27, .invokevirtual 93), (30, .ireturn)]
set_option maxRecDepth 100000 in
theorem ok_X6_at : jOk md_X6_at tb_X6_at := jOk_of (by decide +kernel)
def md_X6_tear : MD := (yX6_tear, cX6_tear, 2, (some .int), 0, 0)
def tb_X6_tear : List (Nat × Instr) := [(0, .iload_n 1), (1, .invokestatic 77), (4, .ifCond .ne 5), (7, .iconst (-1)), (8, .ireturn), (9, .aload_n 0), (10, .getfield 25), (13, .iload_n 1), (14, .iaload), (15, .ifCond .ge 9), (18, .aload_n 0), (19, .iconst 1), (20, .invokevirtual 81), (23, .ireturn), (24, .aload_n 0), (25, .getfield 25), (28, .iload_n 1), (29, .iconst (-1)), (30, .iastore), (31, .iconst 1), (32, .ireturn)]
set_option maxRecDepth 100000 in
theorem ok_X6_tear : jOk md_X6_tear tb_X6_tear := jOk_of (by decide +kernel)
def md_X6_isSpan : MD := (yX6_isSpan, cX6_isSpan, 4, (some .boolean), 0, 0)
def tb_X6_isSpan : List (Nat × Instr) := [(0, .iload_n 2), (1, .ifCond .lt 23), (4, .iload_n 2), (5, .i2l), (6, .iload_n 3), (7, .i2l), (8, .ladd), (9, .aload_n 0), (10, .getfield 25), (13, .iload_n 1), (14, .iaload), (15, .i2l), (16, .lcmp), (17, .ifCond .gt 7), (20, .iconst 1), (21, .goto 4), (24, .iconst 0), (25, .ireturn)]
set_option maxRecDepth 100000 in
theorem ok_X6_isSpan : jOk md_X6_isSpan tb_X6_isSpan := jOk_of (by decide +kernel)
def md_X6_copy : MD := (yX6_copy, cX6_copy, 9, (some .int), 0, 0)
def tb_X6_copy : List (Nat × Instr) := [(0, .iload_n 1), (1, .invokestatic 77), (4, .ifCond .eq 10), (7, .iload_n 3), (8, .invokestatic 77), (11, .ifCond .ne 5), (14, .iconst (-1)), (15, .ireturn), (16, .iload 5), (18, .ifCond .ge 9), (21, .aload_n 0), (22, .iconst 5), (23, .invokevirtual 81), (26, .ireturn), (27, .aload_n 0), (28, .getfield 25), (31, .iload_n 1), (32, .iaload), (33, .ifCond .lt 12), (36, .aload_n 0), (37, .getfield 25), (40, .iload_n 3), (41, .iaload), (42, .ifCond .ge 9), (45, .aload_n 0), (46, .iconst 1), (47, .invokevirtual 81), (50, .ireturn), (51, .aload_n 0), (52, .iload_n 1), (53, .iload_n 2), (54, .iload 5), (56, .invokevirtual 96), (59, .ifCond .eq 15), (62, .aload_n 0), (63, .iload_n 3), (64, .iload 4), (66, .iload 5), (68, .invokevirtual 96), (71, .ifCond .ne 9), (74, .aload_n 0), (75, .iconst 2), (76, .invokevirtual 81), (79, .ireturn), (80, .iload_n 2), (81, .iload 4), (83, .if_icmp .ge 7), (86, .iconst 1), (87, .goto 4), (90, .iconst 0), (91, .istore 6), (93, .iconst 0), (94, .istore 7), (96, .iload 7), (98, .iload 5), (100, .if_icmp .ge 57), (103, .iload 6), (105, .ifCond .eq 13), (108, .iload 5), (110, .iconst 1), (111, .isub), (112, .iload 7), (114, .isub), (115, .goto 5), (118, .iload 7), (120, .istore 8), (122, .aload_n 0), (123, .getfield 28), (126, .bipush 40), (128, .iload_n 3), (129, .imul), (130, .iload 4), (132, .iadd), (133, .iload 8), (135, .iadd), (136, .aload_n 0), (137, .getfield 28), (140, .bipush 40), (142, .iload_n 1), (143, .imul), (144, .iload_n 2), (145, .iadd), (146, .iload 8), (148, .iadd), (149, .iaload), (150, .iastore), (151, .iinc 7 1), (154, .goto (-58)), (157, .iconst 1), (158, .ireturn)]
set_option maxRecDepth 100000 in
theorem ok_X6_copy : jOk md_X6_copy tb_X6_copy := jOk_of (by decide +kernel)
def md_X6_mean : MD := (yX6_mean, cX6_mean, 5, (some .int), 0, 0)
def tb_X6_mean : List (Nat × Instr) := [(0, .iload_n 1), (1, .invokestatic 77), (4, .ifCond .ne 5), (7, .iconst (-1)), (8, .ireturn), (9, .aload_n 0), (10, .getfield 25), (13, .iload_n 1), (14, .iaload), (15, .ifCond .ge 9), (18, .aload_n 0), (19, .iconst 1), (20, .invokevirtual 81), (23, .ireturn), (24, .aload_n 0), (25, .getfield 25), (28, .iload_n 1), (29, .iaload), (30, .ifCond .ne 9), (33, .aload_n 0), (34, .iconst 4), (35, .invokevirtual 81), (38, .ireturn), (39, .lconst 0), (40, .lstore_n 2), (41, .iconst 0), (42, .istore 4), (44, .iload 4), (46, .aload_n 0), (47, .getfield 25), (50, .iload_n 1), (51, .iaload), (52, .if_icmp .ge 25), (55, .lload_n 2), (56, .aload_n 0), (57, .getfield 28), (60, .bipush 40), (62, .iload_n 1), (63, .imul), (64, .iload 4), (66, .iadd), (67, .iaload), (68, .i2l), (69, .ladd), (70, .lstore_n 2), (71, .iinc 4 1), (74, .goto (-30)), (77, .aload_n 0), (78, .lload_n 2), (79, .aload_n 0), (80, .getfield 25), (83, .iload_n 1), (84, .iaload), (85, .i2l), (86, .ldiv), (87, .l2i), (88, .invokevirtual 93), (91, .ireturn)]
set_option maxRecDepth 100000 in
theorem ok_X6_mean : jOk md_X6_mean tb_X6_mean := jOk_of (by decide +kernel)
def md_X6_text : MD := (yX6_text, cX6_text, 4, (some .int), 0, 0)
def tb_X6_text : List (Nat × Instr) := [(0, .iload_n 1), (1, .invokestatic 100), (4, .ifCond .eq 9), (7, .iload_n 2), (8, .bipush 60), (10, .if_icmp .le 5), (13, .iconst (-1)), (14, .ireturn), (15, .iload_n 2), (16, .ifCond .ge 9), (19, .aload_n 0), (20, .iconst 5), (21, .invokevirtual 81), (24, .ireturn), (25, .aload_n 0), (26, .getfield 31), (29, .iload_n 1), (30, .iload_n 2), (31, .iastore), (32, .iconst 0), (33, .istore_n 3), (34, .iload_n 3), (35, .bipush 60), (37, .if_icmp .ge 22), (40, .aload_n 0), (41, .getfield 34), (44, .bipush 60), (46, .iload_n 1), (47, .imul), (48, .iload_n 3), (49, .iadd), (50, .bipush 32), (52, .iastore), (53, .iinc 3 1), (56, .goto (-22)), (59, .iload_n 2), (60, .ireturn)]
set_option maxRecDepth 100000 in
theorem ok_X6_text : jOk md_X6_text tb_X6_text := jOk_of (by decide +kernel)
def md_X6_put : MD := (yX6_put, cX6_put, 5, (some .int), 0, 0)
def tb_X6_put : List (Nat × Instr) := [(0, .iload_n 1), (1, .invokestatic 100), (4, .ifCond .ne 5), (7, .iconst (-1)), (8, .ireturn), (9, .aload_n 0), (10, .getfield 31), (13, .iload_n 1), (14, .iaload), (15, .ifCond .ge 9), (18, .aload_n 0), (19, .iconst 1), (20, .invokevirtual 81), (23, .ireturn), (24, .iload_n 2), (25, .i2l), (26, .lconst 0), (27, .aload_n 0), (28, .getfield 31), (31, .iload_n 1), (32, .iaload), (33, .iconst 1), (34, .isub), (35, .i2l), (36, .invokestatic 71), (39, .ifCond .ne 9), (42, .aload_n 0), (43, .iconst 2), (44, .invokevirtual 81), (47, .ireturn), (48, .aload_n 0), (49, .getfield 34), (52, .bipush 60), (54, .iload_n 1), (55, .imul), (56, .iload_n 2), (57, .iadd), (58, .iaload), (59, .istore 4), (61, .aload_n 0), (62, .getfield 34), (65, .bipush 60), (67, .iload_n 1), (68, .imul), (69, .iload_n 2), (70, .iadd), (71, .iload_n 3), (72, .i2b), (73, .iastore), (74, .iload 4), (76, .sipush 1000), (79, .iadd), (80, .ireturn)]
set_option maxRecDepth 100000 in
theorem ok_X6_put : jOk md_X6_put tb_X6_put := jOk_of (by decide +kernel)
def md_X6_here : MD := (yX6_here, cX6_here, 1, (some .int), 0, 0)
def tb_X6_here : List (Nat × Instr) := [(0, .aload_n 0), (1, .getfield 34), (4, .aload_n 0), (5, .getfield 103), (8, .aload_n 0), (9, .getfield 106), (12, .iadd), (13, .iaload), (14, .ireturn)]
set_option maxRecDepth 100000 in
theorem ok_X6_here : jOk md_X6_here tb_X6_here := jOk_of (by decide +kernel)
def md_X6_skip : MD := (yX6_skip, cX6_skip, 1, none, 0, 0)
def tb_X6_skip : List (Nat × Instr) := [(0, .aload_n 0), (1, .getfield 106), (4, .aload_n 0), (5, .getfield 109), (8, .if_icmp .ge 25), (11, .aload_n 0), (12, .invokevirtual 112), (15, .bipush 32), (17, .if_icmp .ne 16), (20, .aload_n 0), (21, .dup), (22, .getfield 106), (25, .iconst 1), (26, .iadd), (27, .putfield 106), (30, .goto (-30)), (33, .return_)]
set_option maxRecDepth 100000 in
theorem ok_X6_skip : jOk md_X6_skip tb_X6_skip := jOk_of (by decide +kernel)
def md_X6_figure : MD := (yX6_figure, cX6_figure, 3, (some .int), 0, 0)
def tb_X6_figure : List (Nat × Instr) := [(0, .aload_n 0), (1, .getfield 106), (4, .aload_n 0), (5, .getfield 109), (8, .if_icmp .eq 24), (11, .aload_n 0), (12, .invokevirtual 112), (15, .i2l), (16, .bipush 48), (18, .iload_n 1), (19, .iadd), (20, .i2l), (21, .bipush 48), (23, .iload_n 2), (24, .iadd), (25, .i2l), (26, .invokestatic 71), (29, .ifCond .ne 6), (32, .bipush (-9)), (34, .ireturn), (35, .aload_n 0), (36, .dup), (37, .getfield 106), (40, .iconst 1), (41, .iadd), (42, .putfield 106), (45, .aload_n 0), (46, .getfield 34), (49, .aload_n 0), (50, .getfield 103), (53, .aload_n 0), (54, .getfield 106), (57, .iadd), (58, .iconst 1), (59, .isub), (60, .iaload), (61, .bipush 48), (63, .isub), (64, .ireturn)]
set_option maxRecDepth 100000 in
theorem ok_X6_figure : jOk md_X6_figure tb_X6_figure := jOk_of (by decide +kernel)
def md_X6_kindOfLetter : MD := (yX6_kindOfLetter, cX6_kindOfLetter, 1, (some .int), 0, 0)
def tb_X6_kindOfLetter : List (Nat × Instr) := [(0, .iload_n 0), (1, .bipush 112), (3, .if_icmp .ne 7), (6, .iconst 0), (7, .goto 55), (10, .iload_n 0), (11, .bipush 122), (13, .if_icmp .ne 7), (16, .iconst 1), (17, .goto 45), (20, .iload_n 0), (21, .bipush 115), (23, .if_icmp .ne 7), (26, .iconst 2), (27, .goto 35), (30, .iload_n 0), (31, .bipush 104), (33, .if_icmp .ne 7), (36, .iconst 3), (37, .goto 25), (40, .iload_n 0), (41, .bipush 119), (43, .if_icmp .ne 7), (46, .iconst 4), (47, .goto 15), (50, .iload_n 0), (51, .bipush 108), (53, .if_icmp .ne 7), (56, .iconst 5), (57, .goto 5), (60, .bipush (-9)), (62, .ireturn)]
set_option maxRecDepth 100000 in
theorem ok_X6_kindOfLetter : jOk md_X6_kindOfLetter tb_X6_kindOfLetter := jOk_of (by decide +kernel)
def md_X6_readsPerson : MD := (yX6_readsPerson, cX6_readsPerson, 8, (some .boolean), 0, 0)
def tb_X6_readsPerson : List (Nat × Instr) := [(0, .aload_n 0), (1, .invokevirtual 112), (4, .invokestatic 116), (7, .istore_n 1), (8, .iload_n 1), (9, .bipush (-9)), (11, .if_icmp .eq 19), (14, .aload_n 0), (15, .getfield 119), (18, .bipush 6), (20, .if_icmp .eq 10), (23, .aload_n 0), (24, .getfield 122), (27, .ifCond .le 5), (30, .iconst 0), (31, .ireturn), (32, .aload_n 0), (33, .dup), (34, .getfield 106), (37, .iconst 1), (38, .iadd), (39, .putfield 106), (42, .aload_n 0), (43, .iconst 1), (44, .bipush 9), (46, .invokevirtual 125), (49, .istore_n 2), (50, .iload_n 2), (51, .bipush (-9)), (53, .if_icmp .ne 8), (56, .bipush (-9)), (58, .goto 9), (61, .aload_n 0), (62, .iconst 0), (63, .iconst 5), (64, .invokevirtual 125), (67, .istore_n 3), (68, .iload_n 3), (69, .bipush (-9)), (71, .if_icmp .eq 14), (74, .aload_n 0), (75, .getfield 106), (78, .aload_n 0), (79, .getfield 109), (82, .if_icmp .ne 5), (85, .iconst 0), (86, .ireturn), (87, .aload_n 0), (88, .getfield 106), (91, .istore 4), (93, .aload_n 0), (94, .invokevirtual 112), (97, .bipush 45), (99, .if_icmp .ne 7), (102, .iconst 1), (103, .goto 4), (106, .iconst 0), (107, .istore 5), (109, .aload_n 0), (110, .dup), (111, .getfield 106), (114, .iload 5), (116, .ifCond .eq 7), (119, .iconst 1), (120, .goto 4), (123, .iconst 0), (124, .iadd), (125, .putfield 106), (128, .iload 5), (130, .ifCond .eq 8), (133, .bipush (-9)), (135, .goto 10), (138, .aload_n 0), (139, .iconst 0), (140, .bipush 9), (142, .invokevirtual 125), (145, .istore 6), (147, .iload 5), (149, .ifCond .ne 12), (152, .iload 6), (154, .bipush (-9)), (156, .if_icmp .ne 5), (159, .iconst 0), (160, .ireturn), (161, .iconst 5), (162, .aload_n 0), (163, .getfield 119), (166, .imul), (167, .istore 7), (169, .aload_n 0), (170, .getfield 44), (173, .iload 7), (175, .iload_n 1), (176, .iastore), (177, .aload_n 0), (178, .getfield 44), (181, .iload 7), (183, .iconst 1), (184, .iadd), (185, .iload_n 2), (186, .iastore), (187, .aload_n 0), (188, .getfield 44), (191, .iload 7), (193, .iconst 2), (194, .iadd), (195, .iload_n 3), (196, .iastore), (197, .aload_n 0), (198, .getfield 44), (201, .iload 7), (203, .iconst 3), (204, .iadd), (205, .iload 6), (207, .iastore), (208, .aload_n 0), (209, .getfield 44), (212, .iload 7), (214, .iconst 4), (215, .iadd), (216, .iload 4), (218, .iastore), (219, .aload_n 0), (220, .dup), (221, .getfield 119), (224, .iconst 1), (225, .iadd), (226, .putfield 119), (229, .iconst 1), (230, .ireturn)]
set_option maxRecDepth 100000 in
theorem ok_X6_readsPerson : jOk md_X6_readsPerson tb_X6_readsPerson := jOk_of (by decide +kernel)
def md_X6_readsLove : MD := (yX6_readsLove, cX6_readsLove, 3, (some .boolean), 0, 0)
def tb_X6_readsLove : List (Nat × Instr) := [(0, .aload_n 0), (1, .getfield 119), (4, .iconst 2), (5, .if_icmp .lt 12), (8, .aload_n 0), (9, .getfield 122), (12, .bipush 8), (14, .if_icmp .ne 5), (17, .iconst 0), (18, .ireturn), (19, .aload_n 0), (20, .dup), (21, .getfield 106), (24, .iconst 1), (25, .iadd), (26, .putfield 106), (29, .aload_n 0), (30, .iconst 0), (31, .aload_n 0), (32, .getfield 119), (35, .iconst 1), (36, .isub), (37, .invokevirtual 125), (40, .istore_n 1), (41, .iload_n 1), (42, .bipush (-9)), (44, .if_icmp .ne 5), (47, .iconst 0), (48, .ireturn), (49, .aload_n 0), (50, .iconst 0), (51, .aload_n 0), (52, .getfield 119), (55, .iconst 1), (56, .isub), (57, .invokevirtual 125), (60, .istore_n 2), (61, .iload_n 2), (62, .bipush (-9)), (64, .if_icmp .ne 5), (67, .iconst 0), (68, .ireturn), (69, .iload_n 1), (70, .iload_n 2), (71, .if_icmp .eq 16), (74, .aload_n 0), (75, .getfield 47), (78, .iload_n 1), (79, .iaload), (80, .iload_n 2), (81, .invokestatic 128), (84, .ifCond .eq 15), (87, .aload_n 0), (88, .dup), (89, .getfield 106), (92, .iconst 1), (93, .isub), (94, .putfield 106), (97, .iconst 0), (98, .ireturn), (99, .aload_n 0), (100, .getfield 47), (103, .iload_n 1), (104, .dup2), (105, .iaload), (106, .iconst 1), (107, .iload_n 2), (108, .ishl), (109, .ior), (110, .iastore), (111, .aload_n 0), (112, .getfield 47), (115, .iload_n 2), (116, .dup2), (117, .iaload), (118, .iconst 1), (119, .iload_n 1), (120, .ishl), (121, .ior), (122, .iastore), (123, .aload_n 0), (124, .dup), (125, .getfield 122), (128, .iconst 1), (129, .iadd), (130, .putfield 122), (133, .iconst 1), (134, .ireturn)]
set_option maxRecDepth 100000 in
theorem ok_X6_readsLove : jOk md_X6_readsLove tb_X6_readsLove := jOk_of (by decide +kernel)
def md_X6_areVictims : MD := (yX6_areVictims, cX6_areVictims, 4, (some .boolean), 0, 0)
def tb_X6_areVictims : List (Nat × Instr) := [(0, .iconst 0), (1, .istore_n 1), (2, .iconst 0), (3, .istore_n 2), (4, .iload_n 2), (5, .aload_n 0), (6, .getfield 119), (9, .if_icmp .ge 79), (12, .aload_n 0), (13, .getfield 44), (16, .iconst 5), (17, .iload_n 2), (18, .imul), (19, .iconst 3), (20, .iadd), (21, .iaload), (22, .istore_n 3), (23, .iload_n 3), (24, .bipush (-9)), (26, .if_icmp .eq 40), (29, .iload_n 3), (30, .iload_n 2), (31, .if_icmp .eq 19), (34, .iload_n 3), (35, .aload_n 0), (36, .getfield 119), (39, .if_icmp .ge 11), (42, .iload_n 1), (43, .iload_n 3), (44, .invokestatic 128), (47, .ifCond .eq 19), (50, .aload_n 0), (51, .aload_n 0), (52, .getfield 44), (55, .iconst 5), (56, .iload_n 2), (57, .imul), (58, .iconst 4), (59, .iadd), (60, .iaload), (61, .putfield 106), (64, .iconst 0), (65, .ireturn), (66, .iload_n 1), (67, .iload_n 3), (68, .bipush (-9)), (70, .if_icmp .ne 7), (73, .iconst 0), (74, .goto 6), (77, .iconst 1), (78, .iload_n 3), (79, .ishl), (80, .ior), (81, .istore_n 1), (82, .iinc 2 1), (85, .goto (-81)), (88, .iconst 1), (89, .ireturn)]
set_option maxRecDepth 100000 in
theorem ok_X6_areVictims : jOk md_X6_areVictims tb_X6_areVictims := jOk_of (by decide +kernel)
def md_X6_faultOf : MD := (yX6_faultOf, cX6_faultOf, 3, (some .int), 0, 0)
def tb_X6_faultOf : List (Nat × Instr) := [(0, .aload_n 0), (1, .bipush 60), (3, .iload_n 1), (4, .imul), (5, .putfield 103), (8, .aload_n 0), (9, .iconst 0), (10, .putfield 106), (13, .aload_n 0), (14, .aload_n 0), (15, .getfield 31), (18, .iload_n 1), (19, .iaload), (20, .putfield 109), (23, .aload_n 0), (24, .iconst 0), (25, .putfield 119), (28, .aload_n 0), (29, .iconst 0), (30, .putfield 122), (33, .iconst 0), (34, .istore_n 2), (35, .iload_n 2), (36, .bipush 6), (38, .if_icmp .ge 16), (41, .aload_n 0), (42, .getfield 47), (45, .iload_n 2), (46, .iconst 0), (47, .iastore), (48, .iinc 2 1), (51, .goto (-16)), (54, .aload_n 0), (55, .invokevirtual 132), (58, .iconst 1), (59, .istore_n 2), (60, .iload_n 2), (61, .ifCond .eq 46), (64, .aload_n 0), (65, .getfield 106), (68, .aload_n 0), (69, .getfield 109), (72, .if_icmp .ge 35), (75, .aload_n 0), (76, .invokevirtual 112), (79, .bipush 111), (81, .if_icmp .ne 10), (84, .aload_n 0), (85, .invokevirtual 135), (88, .goto 7), (91, .aload_n 0), (92, .invokevirtual 139), (95, .istore_n 2), (96, .iload_n 2), (97, .ifCond .eq (-37)), (100, .aload_n 0), (101, .invokevirtual 132), (104, .goto (-44)), (107, .iload_n 2), (108, .ifCond .eq 23), (111, .aload_n 0), (112, .getfield 119), (115, .iconst 1), (116, .if_icmp .le 15), (119, .aload_n 0), (120, .invokevirtual 142), (123, .ifCond .eq 8), (126, .bipush (-9)), (128, .goto 7), (131, .aload_n 0), (132, .getfield 106), (135, .ireturn)]
set_option maxRecDepth 100000 in
theorem ok_X6_faultOf : jOk md_X6_faultOf tb_X6_faultOf := jOk_of (by decide +kernel)
def md_X6_fault : MD := (yX6_fault, cX6_fault, 2, (some .int), 0, 0)
def tb_X6_fault : List (Nat × Instr) := [(0, .iload_n 1), (1, .invokestatic 100), (4, .ifCond .ne 5), (7, .iconst (-1)), (8, .ireturn), (9, .aload_n 0), (10, .getfield 31), (13, .iload_n 1), (14, .iaload), (15, .ifCond .ge 11), (18, .aload_n 0), (19, .iconst 1), (20, .invokevirtual 81), (23, .goto 8), (26, .aload_n 0), (27, .iload_n 1), (28, .invokevirtual 145), (31, .ireturn)]
set_option maxRecDepth 100000 in
theorem ok_X6_fault : jOk md_X6_fault tb_X6_fault := jOk_of (by decide +kernel)
def md_X6_town : MD := (yX6_town, cX6_town, 4, (some .int), 0, 0)
def tb_X6_town : List (Nat × Instr) := [(0, .iload_n 1), (1, .invokestatic 100), (4, .ifCond .ne 5), (7, .iconst (-1)), (8, .ireturn), (9, .aload_n 0), (10, .getfield 31), (13, .iload_n 1), (14, .iaload), (15, .ifCond .ge 9), (18, .aload_n 0), (19, .iconst 1), (20, .invokevirtual 81), (23, .ireturn), (24, .aload_n 0), (25, .iload_n 1), (26, .invokevirtual 145), (29, .bipush (-9)), (31, .if_icmp .eq 6), (34, .bipush (-4)), (36, .ireturn), (37, .aload_n 0), (38, .aload_n 0), (39, .getfield 119), (42, .putfield 148), (45, .aload_n 0), (46, .aload_n 0), (47, .getfield 122), (50, .putfield 151), (53, .iconst 0), (54, .istore_n 2), (55, .iload_n 2), (56, .sipush 780), (59, .if_icmp .ge 16), (62, .aload_n 0), (63, .getfield 7), (66, .iload_n 2), (67, .iconst 0), (68, .iastore), (69, .iinc 2 1), (72, .goto (-17)), (75, .iconst 0), (76, .istore_n 2), (77, .iload_n 2), (78, .bipush 6), (80, .if_icmp .ge 132), (83, .iload_n 2), (84, .aload_n 0), (85, .getfield 148), (88, .if_icmp .ge 7), (91, .iconst 1), (92, .goto 4), (95, .iconst 0), (96, .istore_n 3), (97, .aload_n 0), (98, .getfield 22), (101, .iload_n 2), (102, .aload_n 0), (103, .getfield 47), (106, .iload_n 2), (107, .iaload), (108, .iastore), (109, .aload_n 0), (110, .getfield 13), (113, .iload_n 2), (114, .iload_n 3), (115, .ifCond .eq 14), (118, .aload_n 0), (119, .getfield 44), (122, .iconst 5), (123, .iload_n 2), (124, .imul), (125, .iaload), (126, .goto 4), (129, .iconst 0), (130, .iastore), (131, .aload_n 0), (132, .getfield 16), (135, .iload_n 2), (136, .iload_n 3), (137, .ifCond .eq 16), (140, .aload_n 0), (141, .getfield 44), (144, .iconst 5), (145, .iload_n 2), (146, .imul), (147, .iconst 1), (148, .iadd), (149, .iaload), (150, .goto 4), (153, .iconst 0), (154, .iastore), (155, .aload_n 0), (156, .getfield 19), (159, .iload_n 2), (160, .iload_n 3), (161, .ifCond .eq 16), (164, .aload_n 0), (165, .getfield 44), (168, .iconst 5), (169, .iload_n 2), (170, .imul), (171, .iconst 2), (172, .iadd), (173, .iaload), (174, .goto 4), (177, .iconst 0), (178, .iastore), (179, .aload_n 0), (180, .getfield 7), (183, .iconst 1), (184, .iload_n 2), (185, .iadd), (186, .iload_n 3), (187, .ifCond .eq 16), (190, .aload_n 0), (191, .getfield 44), (194, .iconst 5), (195, .iload_n 2), (196, .imul), (197, .iconst 3), (198, .iadd), (199, .iaload), (200, .goto 5), (203, .bipush (-9)), (205, .iastore), (206, .iinc 2 1), (209, .goto (-132)), (212, .iconst 1), (213, .istore_n 2), (214, .iload_n 2), (215, .iconst 4), (216, .if_icmp .ge 22), (219, .aload_n 0), (220, .getfield 7), (223, .sipush 780), (226, .iload_n 2), (227, .imul), (228, .iconst 0), (229, .iadd), (230, .iconst (-1)), (231, .iastore), (232, .iinc 2 1), (235, .goto (-21)), (238, .aload_n 0), (239, .getfield 148), (242, .ireturn)]
set_option maxRecDepth 100000 in
theorem ok_X6_town : jOk md_X6_town tb_X6_town := jOk_of (by decide +kernel)
def md_X6_isPerson : MD := (yX6_isPerson, cX6_isPerson, 2, (some .boolean), 0, 0)
def tb_X6_isPerson : List (Nat × Instr) := [(0, .iload_n 1), (1, .i2l), (2, .lconst 0), (3, .aload_n 0), (4, .getfield 148), (7, .iconst 1), (8, .isub), (9, .i2l), (10, .invokestatic 71), (13, .ireturn)]
set_option maxRecDepth 100000 in
theorem ok_X6_isPerson : jOk md_X6_isPerson tb_X6_isPerson := jOk_of (by decide +kernel)
def md_X6_areTwo : MD := (yX6_areTwo, cX6_areTwo, 3, (some .boolean), 0, 0)
def tb_X6_areTwo : List (Nat × Instr) := [(0, .aload_n 0), (1, .iload_n 1), (2, .invokevirtual 154), (5, .ifCond .eq 20), (8, .aload_n 0), (9, .iload_n 2), (10, .invokevirtual 154), (13, .ifCond .eq 12), (16, .iload_n 1), (17, .iload_n 2), (18, .if_icmp .eq 7), (21, .iconst 1), (22, .goto 4), (25, .iconst 0), (26, .ireturn)]
set_option maxRecDepth 100000 in
theorem ok_X6_areTwo : jOk md_X6_areTwo tb_X6_areTwo := jOk_of (by decide +kernel)
def md_X6_victim : MD := (yX6_victim, cX6_victim, 2, (some .int), 0, 0)
def tb_X6_victim : List (Nat × Instr) := [(0, .aload_n 0), (1, .getfield 7), (4, .iconst 1), (5, .iload_n 1), (6, .iadd), (7, .iaload), (8, .ireturn)]
set_option maxRecDepth 100000 in
theorem ok_X6_victim : jOk md_X6_victim tb_X6_victim := jOk_of (by decide +kernel)
def md_X6_foe : MD := (yX6_foe, cX6_foe, 3, (some .int), 0, 0)
def tb_X6_foe : List (Nat × Instr) := [(0, .iconst 0), (1, .istore_n 2), (2, .iload_n 2), (3, .aload_n 0), (4, .getfield 148), (7, .if_icmp .ge 20), (10, .aload_n 0), (11, .iload_n 2), (12, .invokevirtual 157), (15, .iload_n 1), (16, .if_icmp .ne 5), (19, .iload_n 2), (20, .ireturn), (21, .iinc 2 1), (24, .goto (-22)), (27, .bipush (-9)), (29, .ireturn)]
set_option maxRecDepth 100000 in
theorem ok_X6_foe : jOk md_X6_foe tb_X6_foe := jOk_of (by decide +kernel)
def md_X6_isReached : MD := (yX6_isReached, cX6_isReached, 2, (some .boolean), 0, 0)
def tb_X6_isReached : List (Nat × Instr) := [(0, .aload_n 0), (1, .getfield 7), (4, .bipush 19), (6, .iaload), (7, .iload_n 1), (8, .invokestatic 128), (11, .ireturn)]
set_option maxRecDepth 100000 in
theorem ok_X6_isReached : jOk md_X6_isReached tb_X6_isReached := jOk_of (by decide +kernel)
def md_X6_plain : MD := (yX6_plain, cX6_plain, 2, (some .int), 0, 0)
def tb_X6_plain : List (Nat × Instr) := [(0, .aload_n 0), (1, .getfield 13), (4, .iload_n 1), (5, .iaload), (40, .aload_n 0), (41, .getfield 19), (44, .iload_n 1), (45, .iaload), (46, .iconst 1), (47, .iadd), (48, .ireturn), (49, .aload_n 0), (50, .getfield 19), (53, .iload_n 1), (54, .iaload), (55, .iconst 3), (56, .iadd), (57, .ireturn), (58, .aload_n 0), (59, .getfield 19), (62, .iload_n 1), (63, .iaload), (64, .iconst 2), (65, .idiv), (66, .ireturn), (67, .aload_n 0), (68, .getfield 19), (71, .iload_n 1), (72, .iaload), (73, .iconst 4), (74, .if_icmp .ge 7), (77, .iconst 0), (78, .goto 13), (81, .aload_n 0), (82, .getfield 19), (85, .iload_n 1), (86, .iaload), (87, .iconst 2), (88, .idiv), (89, .iconst 1), (90, .isub), (91, .ireturn), (92, .aload_n 0), (93, .getfield 19), (96, .iload_n 1), (97, .iaload), (98, .ireturn)]
set_option maxRecDepth 100000 in
theorem ok_X6_plain : jOk md_X6_plain tb_X6_plain := jOk_of (by decide +kernel)
def md_X6_strengthOf : MD := (yX6_strengthOf, cX6_strengthOf, 4, (some .int), 0, 0)
def tb_X6_strengthOf : List (Nat × Instr) := [(0, .aload_n 0), (1, .iload_n 1), (2, .invokevirtual 160), (5, .aload_n 0), (6, .getfield 13), (9, .iload_n 2), (10, .iaload), (11, .iconst 2), (12, .if_icmp .ne 7), (15, .iconst 1), (16, .goto 4), (19, .iconst 0), (20, .isub), (21, .istore_n 3), (22, .iload_n 3), (23, .ifCond .lt 16), (26, .aload_n 0), (27, .getfield 22), (30, .iload_n 1), (31, .iaload), (32, .iload_n 2), (33, .invokestatic 128), (36, .ifCond .eq 7), (39, .iconst 0), (40, .goto 4), (43, .iload_n 3), (44, .ireturn)]
set_option maxRecDepth 100000 in
theorem ok_X6_strengthOf : jOk md_X6_strengthOf tb_X6_strengthOf := jOk_of (by decide +kernel)
def md_X6_against : MD := (yX6_against, cX6_against, 3, (some .int), 0, 0)
def tb_X6_against : List (Nat × Instr) := [(0, .aload_n 0), (1, .iload_n 1), (2, .invokevirtual 163), (5, .istore_n 2), (6, .iload_n 2), (7, .bipush (-9)), (9, .if_icmp .ne 7), (12, .iconst 0), (13, .goto 9), (16, .aload_n 0), (17, .iload_n 2), (18, .iload_n 1), (19, .invokevirtual 166), (22, .ireturn)]
set_option maxRecDepth 100000 in
theorem ok_X6_against : jOk md_X6_against tb_X6_against := jOk_of (by decide +kernel)
def md_X6_toldOf : MD := (yX6_toldOf, cX6_toldOf, 3, (some .int), 0, 0)
def tb_X6_toldOf : List (Nat × Instr) := [(0, .iload_n 2), (48, .aload_n 0), (49, .getfield 13), (52, .iload_n 1), (53, .iaload), (54, .ireturn), (55, .aload_n 0), (56, .getfield 16), (59, .iload_n 1), (60, .iaload), (61, .ireturn), (62, .aload_n 0), (63, .getfield 19), (66, .iload_n 1), (67, .iaload), (68, .ireturn), (69, .aload_n 0), (70, .iload_n 1), (71, .invokevirtual 157), (74, .ireturn), (75, .aload_n 0), (76, .iload_n 1), (77, .invokevirtual 163), (80, .ireturn), (81, .aload_n 0), (82, .getfield 7), (85, .bipush 7), (87, .iload_n 1), (88, .iadd), (89, .iaload), (90, .ireturn), (91, .aload_n 0), (92, .getfield 7), (95, .bipush 13), (97, .iload_n 1), (98, .iadd), (99, .iaload), (100, .ireturn), (101, .aload_n 0), (102, .iload_n 1), (103, .invokevirtual 169), (106, .ifCond .eq 7), (109, .iconst 1), (110, .goto 4), (113, .iconst 0), (114, .ireturn), (115, .aload_n 0), (116, .getfield 22), (119, .iload_n 1), (120, .iaload), (121, .ireturn)]
set_option maxRecDepth 100000 in
theorem ok_X6_toldOf : jOk md_X6_toldOf tb_X6_toldOf := jOk_of (by decide +kernel)
def md_X6_person : MD := (yX6_person, cX6_person, 3, (some .int), 0, 0)
def tb_X6_person : List (Nat × Instr) := [(0, .aload_n 0), (1, .iload_n 1), (2, .invokevirtual 154), (5, .ifCond .eq 28), (8, .iload_n 2), (9, .i2l), (10, .lconst 0), (11, .ldc2_w 172), (14, .invokestatic 71), (17, .ifCond .eq 16), (20, .aload_n 0), (21, .aload_n 0), (22, .iload_n 1), (23, .iload_n 2), (24, .invokevirtual 174), (27, .invokevirtual 93), (30, .goto 4), (33, .iconst (-1)), (34, .ireturn)]
set_option maxRecDepth 100000 in
theorem ok_X6_person : jOk md_X6_person tb_X6_person := jOk_of (by decide +kernel)
end
section
def md_X6_isOf : MD := (yX6_isOf, cX6_isOf, 3, (some .boolean), 0, 0)
def tb_X6_isOf : List (Nat × Instr) := [(0, .aload_n 0), (1, .getfield 13), (4, .iload_n 1), (5, .iaload), (6, .iload_n 2), (7, .if_icmp .eq 33), (10, .iload_n 2), (11, .iconst 1), (12, .if_icmp .ne 13), (15, .aload_n 0), (16, .getfield 13), (19, .iload_n 1), (20, .iaload), (21, .iconst 4), (22, .if_icmp .eq 18), (25, .iload_n 2), (26, .iconst 3), (27, .if_icmp .ne 17), (30, .aload_n 0), (31, .getfield 13), (34, .iload_n 1), (35, .iaload), (36, .iconst 5), (37, .if_icmp .ne 7), (40, .iconst 1), (41, .goto 4), (44, .iconst 0), (45, .ireturn)]
set_option maxRecDepth 100000 in
theorem ok_X6_isOf : jOk md_X6_isOf tb_X6_isOf := jOk_of (by decide +kernel)
def md_X6_saved : MD := (yX6_saved, cX6_saved, 4, (some .int), 0, 0)
def tb_X6_saved : List (Nat × Instr) := [(0, .iconst 0), (1, .istore_n 2), (2, .iconst 0), (3, .istore_n 3), (4, .iload_n 3), (5, .aload_n 0), (6, .getfield 148), (9, .if_icmp .ge 49), (12, .iload_n 2), (13, .iload_n 3), (14, .iload_n 1), (15, .if_icmp .eq 34), (18, .aload_n 0), (19, .getfield 22), (22, .iload_n 3), (23, .iaload), (24, .iload_n 1), (25, .invokestatic 128), (28, .ifCond .ne 21), (31, .aload_n 0), (32, .iload_n 3), (33, .invokevirtual 160), (36, .aload_n 0), (37, .iload_n 3), (38, .iload_n 1), (39, .invokevirtual 166), (42, .if_icmp .le 7), (45, .iconst 1), (46, .goto 4), (49, .iconst 0), (50, .iadd), (51, .istore_n 2), (52, .iinc 3 1), (55, .goto (-51)), (58, .iload_n 2), (59, .ireturn)]
set_option maxRecDepth 100000 in
theorem ok_X6_saved : jOk md_X6_saved tb_X6_saved := jOk_of (by decide +kernel)
def md_X6_owes : MD := (yX6_owes, cX6_owes, 4, (some .boolean), 0, 0)
def tb_X6_owes : List (Nat × Instr) := [(0, .aload_n 0), (1, .iload_n 1), (2, .invokevirtual 157), (5, .istore_n 3), (6, .iload_n 3), (7, .bipush (-9)), (9, .if_icmp .eq 38), (12, .aload_n 0), (13, .getfield 13), (16, .iload_n 1), (17, .iaload), (18, .iconst 2), (19, .if_icmp .eq 28), (22, .aload_n 0), (23, .getfield 22), (26, .iload_n 1), (27, .iaload), (28, .iload_n 3), (29, .invokestatic 128), (32, .ifCond .ne 15), (35, .iload_n 2), (36, .iload_n 3), (37, .invokestatic 128), (40, .ifCond .ne 7), (43, .iconst 1), (44, .goto 4), (47, .iconst 0), (48, .ireturn)]
set_option maxRecDepth 100000 in
theorem ok_X6_owes : jOk md_X6_owes tb_X6_owes := jOk_of (by decide +kernel)
def md_X6_weeksForNine : MD := (yX6_weeksForNine, cX6_weeksForNine, 3, (some .int), 0, 0)
def tb_X6_weeksForNine : List (Nat × Instr) := [(0, .aload_n 0), (1, .iload_n 1), (2, .invokevirtual 157), (5, .bipush (-9)), (7, .if_icmp .ne 7), (10, .iconst 0), (11, .goto 13), (14, .aload_n 0), (15, .iload_n 1), (16, .aload_n 0), (17, .iload_n 1), (18, .invokevirtual 157), (21, .invokevirtual 166), (24, .istore_n 2), (25, .iload_n 2), (26, .ifCond .ne 8), (29, .bipush (-9)), (31, .goto 9), (34, .bipush 8), (36, .iload_n 2), (37, .iadd), (38, .iload_n 2), (39, .idiv), (40, .ireturn)]
set_option maxRecDepth 100000 in
theorem ok_X6_weeksForNine : jOk md_X6_weeksForNine tb_X6_weeksForNine := jOk_of (by decide +kernel)
def md_X6_mark : MD := (yX6_mark, cX6_mark, 3, (some .int), 0, 0)
def tb_X6_mark : List (Nat × Instr) := [(0, .aload_n 0), (1, .iload_n 1), (2, .invokevirtual 154), (5, .ifCond .eq 15), (8, .iload_n 2), (9, .i2l), (10, .lconst 1), (11, .ldc2_w 69), (14, .invokestatic 71), (17, .ifCond .ne 5), (20, .iconst (-1)), (21, .ireturn), (22, .aload_n 0), (23, .iload_n 1), (24, .iload_n 2), (25, .invokevirtual 177), (28, .ifCond .ne 9), (31, .aload_n 0), (32, .iconst 3), (33, .invokevirtual 81), (36, .ireturn), (37, .iload_n 2), (68, .aload_n 0), (69, .iload_n 1), (70, .invokevirtual 160), (73, .ireturn), (74, .aload_n 0), (75, .iload_n 1), (76, .invokevirtual 180), (79, .ireturn), (80, .aload_n 0), (81, .getfield 22), (84, .iload_n 1), (85, .iaload), (86, .invokestatic 183), (89, .ireturn), (90, .aload_n 0), (91, .iload_n 1), (92, .invokevirtual 186), (95, .ireturn), (96, .aload_n 0), (97, .iload_n 1), (98, .aload_n 0), (99, .getfield 7), (102, .bipush 19), (104, .iaload), (105, .invokevirtual 189), (108, .ifCond .eq 7), (111, .iconst 1), (112, .goto 4), (115, .iconst 0), (116, .ireturn)]
set_option maxRecDepth 100000 in
theorem ok_X6_mark : jOk md_X6_mark tb_X6_mark := jOk_of (by decide +kernel)
def md_X6_strength : MD := (yX6_strength, cX6_strength, 3, (some .int), 0, 0)
def tb_X6_strength : List (Nat × Instr) := [(0, .aload_n 0), (1, .iload_n 1), (2, .iload_n 2), (3, .invokevirtual 192), (6, .ifCond .eq 12), (9, .aload_n 0), (10, .iload_n 1), (11, .iload_n 2), (12, .invokevirtual 166), (15, .goto 4), (18, .iconst (-1)), (19, .ireturn)]
set_option maxRecDepth 100000 in
theorem ok_X6_strength : jOk md_X6_strength tb_X6_strength := jOk_of (by decide +kernel)
def md_X6_keepPast : MD := (yX6_keepPast, cX6_keepPast, 2, none, 0, 0)
def tb_X6_keepPast : List (Nat × Instr) := [(0, .iconst 0), (1, .istore_n 1), (2, .iload_n 1), (3, .bipush 19), (5, .if_icmp .ge 36), (8, .aload_n 0), (9, .getfield 7), (12, .bipush 20), (14, .bipush 19), (16, .aload_n 0), (17, .getfield 7), (20, .iconst 0), (21, .iaload), (22, .imul), (23, .iadd), (24, .iload_n 1), (25, .iadd), (26, .aload_n 0), (27, .getfield 7), (30, .iconst 1), (31, .iload_n 1), (32, .iadd), (33, .iaload), (34, .iastore), (35, .iinc 1 1), (38, .goto (-36)), (41, .aload_n 0), (42, .getfield 7), (45, .iconst 0), (46, .dup2), (47, .iaload), (48, .iconst 1), (49, .iadd), (50, .iastore), (51, .return_)]
set_option maxRecDepth 100000 in
theorem ok_X6_keepPast : jOk md_X6_keepPast tb_X6_keepPast := jOk_of (by decide +kernel)
def md_X6_pass : MD := (yX6_pass, cX6_pass, 5, (some .int), 0, 0)
def tb_X6_pass : List (Nat × Instr) := [(0, .aload_n 0), (1, .invokevirtual 195), (4, .aload_n 0), (5, .getfield 7), (8, .bipush 19), (10, .iaload), (11, .istore_n 1), (12, .iconst 0), (13, .istore_n 2), (14, .iload_n 2), (15, .aload_n 0), (16, .getfield 148), (19, .if_icmp .ge 44), (22, .aload_n 0), (23, .getfield 7), (26, .bipush 7), (28, .iload_n 2), (29, .iadd), (30, .dup2), (31, .iaload), (32, .aload_n 0), (33, .getfield 50), (36, .iload_n 2), (37, .iaload), (38, .iconst 1), (39, .if_icmp .ne 15), (42, .iload_n 1), (43, .iload_n 2), (44, .invokestatic 128), (47, .ifCond .ne 7), (50, .iconst 1), (51, .goto 4), (54, .iconst 0), (55, .iadd), (56, .iastore), (57, .iinc 2 1), (60, .goto (-46)), (63, .iconst 0), (64, .istore_n 2), (65, .iload_n 2), (66, .aload_n 0), (67, .getfield 148), (70, .if_icmp .ge 78), (73, .aload_n 0), (74, .getfield 50), (77, .iload_n 2), (78, .iaload), (79, .iconst 2), (80, .if_icmp .ne 62), (83, .iload_n 1), (84, .aload_n 0), (85, .iload_n 2), (86, .invokevirtual 157), (89, .invokestatic 128), (92, .ifCond .ne 50), (95, .aload_n 0), (96, .getfield 7), (99, .bipush 7), (101, .aload_n 0), (102, .iload_n 2), (103, .invokevirtual 157), (106, .iadd), (107, .iaload), (108, .aload_n 0), (109, .iload_n 2), (110, .aload_n 0), (111, .iload_n 2), (112, .invokevirtual 157), (115, .invokevirtual 166), (118, .isub), (119, .istore_n 3), (120, .aload_n 0), (121, .getfield 7), (124, .bipush 7), (126, .aload_n 0), (127, .iload_n 2), (128, .invokevirtual 157), (131, .iadd), (132, .iload_n 3), (133, .ifCond .ge 7), (136, .iconst 0), (137, .goto 4), (140, .iload_n 3), (141, .iastore), (142, .iinc 2 1), (145, .goto (-80)), (148, .iconst 0), (149, .istore_n 2), (150, .iconst 0), (151, .istore_n 3), (152, .iload_n 3), (153, .aload_n 0), (154, .getfield 148), (157, .if_icmp .ge 113), (160, .iload_n 1), (161, .iload_n 3), (162, .invokestatic 128), (165, .ifCond .ne 25), (168, .aload_n 0), (169, .getfield 7), (172, .bipush 7), (174, .iload_n 3), (175, .iadd), (176, .iaload), (177, .aload_n 0), (178, .getfield 16), (181, .iload_n 3), (182, .iaload), (183, .if_icmp .lt 7), (186, .iconst 1), (187, .goto 4), (190, .iconst 0), (191, .istore 4), (193, .aload_n 0), (194, .getfield 7), (197, .bipush 19), (199, .dup2), (200, .iaload), (201, .iload 4), (203, .ifCond .eq 9), (206, .iconst 1), (207, .iload_n 3), (208, .ishl), (209, .goto 4), (212, .iconst 0), (213, .ior), (214, .iastore), (215, .iload_n 2), (216, .iload 4), (218, .ifCond .eq 7), (221, .iconst 1), (222, .goto 4), (225, .iconst 0), (226, .iadd), (227, .istore_n 2), (228, .aload_n 0), (229, .getfield 7), (232, .bipush 13), (234, .iload_n 3), (235, .iadd), (236, .dup2), (237, .iaload), (238, .aload_n 0), (239, .getfield 50), (242, .iload_n 3), (243, .iaload), (244, .iconst 2), (245, .if_icmp .eq 16), (248, .aload_n 0), (249, .iload_n 3), (250, .iload_n 1), (251, .invokevirtual 189), (254, .ifCond .eq 7), (257, .iconst 1), (258, .goto 4), (261, .iconst 0), (262, .iadd), (263, .iastore), (264, .iinc 3 1), (267, .goto (-115)), (270, .iload_n 2), (271, .ireturn)]
set_option maxRecDepth 100000 in
theorem ok_X6_pass : jOk md_X6_pass tb_X6_pass := jOk_of (by decide +kernel)
def md_X6_isWeek : MD := (yX6_isWeek, cX6_isWeek, 5, (some .boolean), 0, 0)
def tb_X6_isWeek : List (Nat × Instr) := [(0, .iconst 1), (1, .istore_n 2), (2, .iconst 0), (3, .istore_n 3), (4, .iload_n 3), (5, .aload_n 0), (6, .getfield 148), (9, .if_icmp .ge 61), (12, .aload_n 0), (13, .getfield 28), (16, .bipush 40), (18, .iload_n 1), (19, .imul), (20, .iload_n 3), (21, .iadd), (22, .iaload), (23, .istore 4), (25, .iload_n 2), (26, .ifCond .eq 36), (29, .iload 4), (31, .i2l), (32, .lconst 0), (33, .ldc2_w 198), (36, .invokestatic 71), (39, .ifCond .eq 23), (42, .iload 4), (44, .iconst 2), (45, .if_icmp .ne 13), (48, .aload_n 0), (49, .iload_n 3), (50, .invokevirtual 157), (53, .bipush (-9)), (55, .if_icmp .eq 7), (58, .iconst 1), (59, .goto 4), (62, .iconst 0), (63, .istore_n 2), (64, .iinc 3 1), (67, .goto (-63)), (70, .iload_n 2), (71, .ireturn)]
set_option maxRecDepth 100000 in
theorem ok_X6_isWeek : jOk md_X6_isWeek tb_X6_isWeek := jOk_of (by decide +kernel)
def md_X6_week : MD := (yX6_week, cX6_week, 3, (some .int), 0, 0)
def tb_X6_week : List (Nat × Instr) := [(0, .iload_n 1), (1, .invokestatic 77), (4, .ifCond .ne 5), (7, .iconst (-1)), (8, .ireturn), (9, .aload_n 0), (10, .getfield 148), (13, .ifCond .ne 6), (16, .bipush (-4)), (18, .ireturn), (19, .aload_n 0), (20, .getfield 25), (23, .iload_n 1), (24, .iaload), (25, .ifCond .ge 9), (28, .aload_n 0), (29, .iconst 1), (30, .invokevirtual 81), (33, .ireturn), (34, .aload_n 0), (35, .getfield 25), (38, .iload_n 1), (39, .iaload), (40, .aload_n 0), (41, .getfield 148), (44, .if_icmp .eq 9), (47, .aload_n 0), (48, .iconst 5), (49, .invokevirtual 81), (52, .ireturn), (53, .aload_n 0), (54, .iload_n 1), (55, .invokevirtual 200), (58, .ifCond .ne 9), (61, .aload_n 0), (62, .iconst 3), (63, .invokevirtual 81), (66, .ireturn), (67, .aload_n 0), (68, .getfield 7), (71, .iconst 0), (72, .iaload), (73, .bipush 40), (75, .if_icmp .ne 6), (78, .bipush (-2)), (80, .ireturn), (81, .iconst 0), (82, .istore_n 2), (83, .iload_n 2), (84, .aload_n 0), (85, .getfield 148), (88, .if_icmp .ge 26), (91, .aload_n 0), (92, .getfield 50), (95, .iload_n 2), (96, .aload_n 0), (97, .getfield 28), (100, .bipush 40), (102, .iload_n 1), (103, .imul), (104, .iload_n 2), (105, .iadd), (106, .iaload), (107, .iastore), (108, .iinc 2 1), (111, .goto (-28)), (114, .aload_n 0), (115, .invokevirtual 203), (118, .ireturn)]
set_option maxRecDepth 100000 in
theorem ok_X6_week : jOk md_X6_week tb_X6_week := jOk_of (by decide +kernel)
def md_X6_change : MD := (yX6_change, cX6_change, 4, none, 0, 0)
def tb_X6_change : List (Nat × Instr) := [(0, .aload_n 0), (1, .iload_n 1), (2, .invokevirtual 157), (5, .istore_n 3), (6, .aload_n 0), (7, .getfield 7), (10, .iconst 1), (11, .iload_n 1), (12, .iadd), (13, .aload_n 0), (14, .iload_n 2), (15, .invokevirtual 157), (18, .iastore), (19, .aload_n 0), (20, .getfield 7), (23, .iconst 1), (24, .iload_n 2), (25, .iadd), (26, .iload_n 3), (27, .iastore), (28, .return_)]
set_option maxRecDepth 100000 in
theorem ok_X6_change : jOk md_X6_change tb_X6_change := jOk_of (by decide +kernel)
def md_X6_exchange : MD := (yX6_exchange, cX6_exchange, 3, (some .int), 0, 0)
def tb_X6_exchange : List (Nat × Instr) := [(0, .aload_n 0), (1, .iload_n 1), (2, .iload_n 2), (3, .invokevirtual 192), (6, .ifCond .ne 5), (9, .iconst (-1)), (10, .ireturn), (11, .aload_n 0), (12, .iload_n 1), (13, .invokevirtual 157), (16, .iload_n 2), (17, .if_icmp .eq 12), (20, .aload_n 0), (21, .iload_n 2), (22, .invokevirtual 157), (25, .iload_n 1), (26, .if_icmp .ne 6), (29, .bipush (-4)), (31, .ireturn), (32, .aload_n 0), (33, .getfield 7), (36, .iconst 0), (37, .iaload), (38, .bipush 40), (40, .if_icmp .ne 6), (43, .bipush (-2)), (45, .ireturn), (46, .aload_n 0), (47, .invokevirtual 195), (50, .aload_n 0), (51, .iload_n 1), (52, .iload_n 2), (53, .invokevirtual 206), (56, .iconst 1), (57, .ireturn)]
set_option maxRecDepth 100000 in
theorem ok_X6_exchange : jOk md_X6_exchange tb_X6_exchange := jOk_of (by decide +kernel)
def md_X6_undo : MD := (yX6_undo, cX6_undo, 4, (some .int), 0, 0)
def tb_X6_undo : List (Nat × Instr) := [(0, .iload_n 1), (1, .i2l), (2, .lconst 0), (3, .aload_n 0), (4, .getfield 7), (7, .iconst 0), (8, .iaload), (9, .i2l), (10, .invokestatic 71), (13, .ifCond .ne 5), (16, .iconst (-1)), (17, .ireturn), (18, .aload_n 0), (19, .getfield 7), (22, .iconst 0), (23, .iaload), (24, .iload_n 1), (25, .isub), (26, .istore_n 2), (27, .iconst 0), (28, .istore_n 3), (29, .iload_n 3), (30, .bipush 19), (32, .if_icmp .ge 35), (35, .iload_n 2), (36, .ifCond .le 31), (39, .aload_n 0), (40, .getfield 7), (43, .iconst 1), (44, .iload_n 3), (45, .iadd), (46, .aload_n 0), (47, .getfield 7), (50, .bipush 20), (52, .bipush 19), (54, .iload_n 1), (55, .imul), (56, .iadd), (57, .iload_n 3), (58, .iadd), (59, .iaload), (60, .iastore), (61, .iinc 3 1), (64, .goto (-35)), (67, .aload_n 0), (68, .getfield 7), (71, .iconst 0), (72, .iload_n 1), (73, .iastore), (74, .iload_n 2), (75, .ireturn)]
set_option maxRecDepth 100000 in
theorem ok_X6_undo : jOk md_X6_undo tb_X6_undo := jOk_of (by decide +kernel)
def md_X6_copyTown : MD := (yX6_copyTown, cX6_copyTown, 4, none, 0, 0)
def tb_X6_copyTown : List (Nat × Instr) := [(0, .iconst 0), (1, .istore_n 3), (2, .iload_n 3), (3, .sipush 780), (6, .if_icmp .ge 25), (9, .aload_n 0), (10, .getfield 7), (13, .iload_n 2), (14, .iload_n 3), (15, .iadd), (16, .aload_n 0), (17, .getfield 7), (20, .iload_n 1), (21, .iload_n 3), (22, .iadd), (23, .iaload), (24, .iastore), (25, .iinc 3 1), (28, .goto (-26)), (31, .return_)]
set_option maxRecDepth 100000 in
theorem ok_X6_copyTown : jOk md_X6_copyTown tb_X6_copyTown := jOk_of (by decide +kernel)
def md_X6_keep : MD := (yX6_keep, cX6_keep, 2, (some .int), 0, 0)
def tb_X6_keep : List (Nat × Instr) := [(0, .iload_n 1), (1, .i2l), (2, .lconst 0), (3, .ldc2_w 198), (6, .invokestatic 71), (9, .ifCond .ne 5), (12, .iconst (-1)), (13, .ireturn), (14, .aload_n 0), (15, .getfield 148), (18, .ifCond .ne 6), (21, .bipush (-4)), (23, .ireturn), (24, .aload_n 0), (25, .iconst 0), (26, .sipush 780), (29, .iconst 1), (30, .iload_n 1), (31, .iadd), (32, .imul), (33, .invokevirtual 209), (36, .aload_n 0), (37, .getfield 7), (40, .iconst 0), (41, .iaload), (42, .ireturn)]
set_option maxRecDepth 100000 in
theorem ok_X6_keep : jOk md_X6_keep tb_X6_keep := jOk_of (by decide +kernel)
def md_X6_on : MD := (yX6_on, cX6_on, 2, (some .int), 0, 0)
def tb_X6_on : List (Nat × Instr) := [(0, .iload_n 1), (1, .i2l), (2, .lconst 0), (3, .ldc2_w 198), (6, .invokestatic 71), (9, .ifCond .ne 5), (12, .iconst (-1)), (13, .ireturn), (14, .aload_n 0), (15, .getfield 7), (18, .sipush 780), (21, .iconst 1), (22, .iload_n 1), (23, .iadd), (24, .imul), (25, .iconst 0), (26, .iadd), (27, .iaload), (28, .ifCond .ge 9), (31, .aload_n 0), (32, .iconst 1), (33, .invokevirtual 81), (36, .ireturn), (37, .aload_n 0), (38, .sipush 780), (41, .iconst 1), (42, .iload_n 1), (43, .iadd), (44, .imul), (45, .iconst 0), (46, .invokevirtual 209), (49, .aload_n 0), (50, .getfield 7), (53, .iconst 0), (54, .iaload), (55, .ireturn)]
set_option maxRecDepth 100000 in
theorem ok_X6_on : jOk md_X6_on tb_X6_on := jOk_of (by decide +kernel)
def md_X6_ringOf : MD := (yX6_ringOf, cX6_ringOf, 4, (some .int), 0, 0)
def tb_X6_ringOf : List (Nat × Instr) := [(0, .iconst 0), (1, .istore_n 2), (2, .iload_n 1), (3, .istore_n 3), (4, .iload_n 3), (5, .bipush (-9)), (7, .if_icmp .eq 26), (10, .iload_n 2), (11, .iload_n 3), (12, .invokestatic 128), (15, .ifCond .ne 18), (18, .iload_n 2), (19, .iconst 1), (20, .iload_n 3), (21, .ishl), (22, .ior), (23, .istore_n 2), (24, .aload_n 0), (25, .iload_n 3), (26, .invokevirtual 157), (29, .istore_n 3), (30, .goto (-26)), (33, .iload_n 3), (34, .iload_n 1), (35, .if_icmp .ne 7), (38, .iload_n 2), (39, .goto 4), (42, .iconst 0), (43, .ireturn)]
set_option maxRecDepth 100000 in
theorem ok_X6_ringOf : jOk md_X6_ringOf tb_X6_ringOf := jOk_of (by decide +kernel)
def md_X6_rings : MD := (yX6_rings, cX6_rings, 5, (some .int), 0, 0)
def tb_X6_rings : List (Nat × Instr) := [(0, .iconst 0), (1, .istore_n 1), (2, .aload_n 0), (3, .iconst 0), (4, .putfield 66), (7, .iconst 0), (8, .istore_n 2), (9, .iconst 0), (10, .istore_n 3), (11, .iload_n 3), (12, .aload_n 0), (13, .getfield 148), (16, .if_icmp .ge 74), (19, .iload_n 2), (20, .iload_n 3), (21, .invokestatic 128), (24, .ifCond .eq 7), (27, .iconst 0), (28, .goto 8), (31, .aload_n 0), (32, .iload_n 3), (33, .invokevirtual 212), (36, .istore 4), (38, .iload_n 2), (39, .iload 4), (41, .ior), (42, .istore_n 2), (43, .iload_n 1), (44, .iload 4), (46, .ifCond .eq 7), (49, .iconst 1), (50, .goto 4), (53, .iconst 0), (54, .iadd), (55, .istore_n 1), (56, .aload_n 0), (57, .iload 4), (59, .invokestatic 183), (62, .aload_n 0), (63, .getfield 66), (66, .invokestatic 183), (69, .if_icmp .le 8), (72, .iload 4), (74, .goto 7), (77, .aload_n 0), (78, .getfield 66), (81, .putfield 66), (84, .iinc 3 1), (87, .goto (-76)), (90, .iload_n 1), (91, .ireturn)]
set_option maxRecDepth 100000 in
theorem ok_X6_rings : jOk md_X6_rings tb_X6_rings := jOk_of (by decide +kernel)
def md_X6_allies : MD := (yX6_allies, cX6_allies, 5, (some .int), 0, 0)
def tb_X6_allies : List (Nat × Instr) := [(0, .aload_n 0), (1, .iload_n 1), (2, .invokevirtual 154), (5, .ifCond .ne 5), (8, .iconst (-1)), (9, .ireturn), (10, .iconst 0), (11, .istore_n 2), (12, .iload_n 1), (13, .istore_n 3), (14, .iload_n 3), (15, .bipush (-9)), (17, .if_icmp .eq 78), (20, .aload_n 0), (21, .iload_n 3), (22, .invokevirtual 163), (25, .bipush (-9)), (27, .if_icmp .ne 8), (30, .bipush (-9)), (32, .goto 12), (35, .aload_n 0), (36, .aload_n 0), (37, .iload_n 3), (38, .invokevirtual 163), (41, .invokevirtual 163), (44, .istore 4), (46, .iload 4), (48, .bipush (-9)), (50, .if_icmp .eq 18), (53, .iload 4), (55, .iload_n 1), (56, .if_icmp .eq 12), (59, .iload_n 2), (60, .iload 4), (62, .invokestatic 128), (65, .ifCond .eq 8), (68, .bipush (-9)), (70, .goto 5), (73, .iload 4), (75, .istore_n 3), (76, .iload_n 2), (77, .iload_n 3), (78, .bipush (-9)), (80, .if_icmp .ne 7), (83, .iconst 0), (84, .goto 6), (87, .iconst 1), (88, .iload_n 3), (89, .ishl), (90, .ior), (91, .istore_n 2), (92, .goto (-78)), (95, .iload_n 2), (96, .ireturn)]
set_option maxRecDepth 100000 in
theorem ok_X6_allies : jOk md_X6_allies tb_X6_allies := jOk_of (by decide +kernel)
def md_X6_safe : MD := (yX6_safe, cX6_safe, 3, (some .int), 0, 0)
def tb_X6_safe : List (Nat × Instr) := [(0, .aload_n 0), (1, .getfield 148), (4, .ifCond .ne 6), (7, .bipush (-4)), (9, .ireturn), (10, .iconst 0), (11, .istore_n 1), (12, .iconst 0), (13, .istore_n 2), (14, .iload_n 2), (15, .aload_n 0), (16, .getfield 148), (19, .if_icmp .ge 35), (22, .iload_n 1), (23, .aload_n 0), (24, .iload_n 2), (25, .invokevirtual 169), (28, .ifCond .ne 11), (31, .aload_n 0), (32, .iload_n 2), (33, .invokevirtual 215), (36, .ifCond .ne 9), (39, .iconst 1), (40, .iload_n 2), (41, .ishl), (42, .goto 4), (45, .iconst 0), (46, .ior), (47, .istore_n 1), (48, .iinc 2 1), (51, .goto (-37)), (54, .iload_n 1), (55, .ireturn)]
set_option maxRecDepth 100000 in
theorem ok_X6_safe : jOk md_X6_safe tb_X6_safe := jOk_of (by decide +kernel)
def md_X6_weeksOf : MD := (yX6_weeksOf, cX6_weeksOf, 7, (some .int), 0, 0)
def tb_X6_weeksOf : List (Nat × Instr) := [(0, .aload_n 0), (1, .getfield 7), (4, .bipush 7), (6, .iload_n 1), (7, .iadd), (8, .iaload), (9, .istore 4), (11, .aload_n 0), (12, .iload_n 1), (13, .invokevirtual 215), (16, .istore 5), (18, .aload_n 0), (19, .iload_n 1), (20, .invokevirtual 169), (23, .ifCond .eq 5), (26, .iconst 0), (27, .ireturn), (28, .iconst 1), (29, .istore 6), (31, .iload 6), (33, .iload_n 3), (34, .if_icmp .gt 61), (37, .iinc 4 1), (40, .iload 4), (42, .iload_n 2), (43, .ifCond .le 15), (46, .iload 6), (48, .iload_n 2), (49, .irem), (50, .ifCond .ne 8), (53, .iload 5), (55, .goto 4), (58, .iconst 0), (59, .isub), (60, .istore 4), (62, .iload 4), (64, .ifCond .ge 7), (67, .iconst 0), (68, .goto 5), (71, .iload 4), (73, .istore 4), (75, .iload 4), (77, .aload_n 0), (78, .getfield 16), (81, .iload_n 1), (82, .iaload), (83, .if_icmp .lt 6), (86, .iload 6), (88, .ireturn), (89, .iinc 6 1), (92, .goto (-61)), (95, .bipush (-9)), (97, .ireturn)]
set_option maxRecDepth 100000 in
theorem ok_X6_weeksOf : jOk md_X6_weeksOf tb_X6_weeksOf := jOk_of (by decide +kernel)
def md_X6_weeks : MD := (yX6_weeks, cX6_weeks, 3, (some .int), 0, 0)
def tb_X6_weeks : List (Nat × Instr) := [(0, .aload_n 0), (1, .iload_n 1), (2, .invokevirtual 154), (5, .ifCond .eq 26), (8, .iload_n 2), (9, .i2l), (10, .lconst 0), (11, .ldc2_w 218), (14, .invokestatic 71), (17, .ifCond .eq 14), (20, .aload_n 0), (21, .iload_n 1), (22, .iload_n 2), (23, .bipush 30), (25, .invokevirtual 220), (28, .goto 4), (31, .iconst (-1)), (32, .ireturn)]
set_option maxRecDepth 100000 in
theorem ok_X6_weeks : jOk md_X6_weeks tb_X6_weeks := jOk_of (by decide +kernel)
def md_X6_thwart : MD := (yX6_thwart, cX6_thwart, 4, (some .int), 0, 0)
def tb_X6_thwart : List (Nat × Instr) := [(0, .aload_n 0), (1, .iload_n 1), (2, .invokevirtual 154), (5, .ifCond .eq 15), (8, .iload_n 2), (9, .i2l), (10, .lconst 1), (11, .ldc2_w 224), (14, .invokestatic 71), (17, .ifCond .ne 5), (20, .iconst (-1)), (21, .ireturn), (22, .bipush 9), (24, .istore_n 3), (25, .iload_n 3), (26, .ifCond .le 23), (29, .aload_n 0), (30, .iload_n 1), (31, .iload_n 3), (32, .iload_n 2), (33, .invokevirtual 220), (36, .bipush (-9)), (38, .if_icmp .ne 5), (41, .iload_n 3), (42, .ireturn), (43, .iinc 3 (-1)), (46, .goto (-21)), (49, .bipush (-9)), (51, .ireturn)]
set_option maxRecDepth 100000 in
theorem ok_X6_thwart : jOk md_X6_thwart tb_X6_thwart := jOk_of (by decide +kernel)
def md_X6_isReachedBy : MD := (yX6_isReachedBy, cX6_isReachedBy, 7, (some .boolean), 0, 0)
def tb_X6_isReachedBy : List (Nat × Instr) := [(0, .aload_n 0), (1, .getfield 7), (4, .bipush 7), (6, .iload_n 1), (7, .iadd), (8, .iaload), (9, .istore 4), (11, .aload_n 0), (12, .iload_n 1), (13, .invokevirtual 169), (16, .istore 5), (18, .iconst 0), (19, .istore 6), (21, .iload 6), (23, .iload_n 2), (24, .if_icmp .ge 70), (27, .iload 5), (29, .ifCond .ne 65), (32, .iload 4), (34, .iconst 1), (35, .iload_n 3), (36, .iload 6), (38, .invokestatic 128), (41, .ifCond .eq 11), (44, .aload_n 0), (45, .iload_n 1), (46, .invokevirtual 215), (49, .goto 4), (52, .iconst 0), (53, .isub), (54, .iadd), (55, .istore 4), (57, .iload 4), (59, .ifCond .ge 7), (62, .iconst 0), (63, .goto 5), (66, .iload 4), (68, .istore 4), (70, .iload 4), (72, .aload_n 0), (73, .getfield 16), (76, .iload_n 1), (77, .iaload), (78, .if_icmp .lt 7), (81, .iconst 1), (82, .goto 4), (85, .iconst 0), (86, .istore 5), (88, .iinc 6 1), (91, .goto (-70)), (94, .iload 5), (96, .ireturn)]
set_option maxRecDepth 100000 in
theorem ok_X6_isReachedBy : jOk md_X6_isReachedBy tb_X6_isReachedBy := jOk_of (by decide +kernel)
def md_X6_ways : MD := (yX6_ways, cX6_ways, 7, (some .int), 0, 0)
def tb_X6_ways : List (Nat × Instr) := [(0, .aload_n 0), (1, .iload_n 1), (2, .invokevirtual 154), (5, .ifCond .eq 15), (8, .iload_n 2), (9, .i2l), (10, .lconst 0), (11, .ldc2_w 172), (14, .invokestatic 71), (17, .ifCond .ne 5), (20, .iconst (-1)), (21, .ireturn), (22, .iconst 0), (23, .istore_n 3), (24, .bipush (-9)), (26, .istore 4), (28, .iconst 0), (29, .istore 5), (31, .iload 5), (33, .iconst 1), (34, .iload_n 2), (35, .ishl), (36, .if_icmp .ge 67), (39, .aload_n 0), (40, .iload_n 1), (41, .iload_n 2), (42, .iload 5), (44, .invokevirtual 226), (47, .ifCond .ne 50), (50, .iload 5), (52, .invokestatic 183), (55, .iload 5), (57, .bipush 6), (59, .ishr), (60, .iconst 1), (61, .iand), (62, .iadd), (63, .iload 5), (65, .bipush 7), (67, .ishr), (68, .iadd), (69, .istore 6), (71, .iload 4), (73, .bipush (-9)), (75, .if_icmp .eq 10), (78, .iload 6), (80, .iload 4), (82, .if_icmp .ge 8), (85, .iload 6), (87, .goto 5), (90, .iload 4), (92, .istore 4), (94, .iinc 3 1), (97, .iinc 5 1), (100, .goto (-69)), (103, .aload_n 0), (104, .iload 4), (106, .putfield 66), (109, .iload_n 3), (110, .ireturn)]
set_option maxRecDepth 100000 in
theorem ok_X6_ways : jOk md_X6_ways tb_X6_ways := jOk_of (by decide +kernel)
def md_X6_wish : MD := (yX6_wish, cX6_wish, 7, (some .boolean), 0, 0)
def tb_X6_wish : List (Nat × Instr) := [(0, .aload_n 0), (1, .iload_n 1), (2, .invokevirtual 157), (5, .iload_n 2), (6, .if_icmp .eq 12), (9, .aload_n 0), (10, .iload_n 2), (11, .invokevirtual 157), (14, .iload_n 1), (15, .if_icmp .ne 5), (18, .iconst 0), (19, .ireturn), (20, .aload_n 0), (21, .iload_n 1), (22, .invokevirtual 157), (25, .istore_n 3), (26, .aload_n 0), (27, .iload_n 2), (28, .invokevirtual 157), (31, .istore 4), (33, .iload_n 3), (34, .bipush (-9)), (36, .if_icmp .ne 7), (39, .iconst 0), (40, .goto 16), (43, .aload_n 0), (44, .iload_n 2), (45, .iload_n 3), (46, .invokevirtual 166), (49, .aload_n 0), (50, .iload_n 1), (51, .iload_n 3), (52, .invokevirtual 166), (55, .isub), (56, .istore 5), (58, .iload 4), (60, .bipush (-9)), (62, .if_icmp .ne 7), (65, .iconst 0), (66, .goto 18), (69, .aload_n 0), (70, .iload_n 1), (71, .iload 4), (73, .invokevirtual 166), (76, .aload_n 0), (77, .iload_n 2), (78, .iload 4), (80, .invokevirtual 166), (83, .isub), (84, .istore 6), (86, .iload 5), (88, .ifCond .gt 20), (91, .iload 6), (93, .ifCond .gt 15), (96, .iload 5), (98, .iload 6), (100, .iadd), (101, .ifCond .ge 7), (104, .iconst 1), (105, .goto 4), (108, .iconst 0), (109, .ireturn)]
set_option maxRecDepth 100000 in
theorem ok_X6_wish : jOk md_X6_wish tb_X6_wish := jOk_of (by decide +kernel)
def md_X6_wishes : MD := (yX6_wishes, cX6_wishes, 5, (some .int), 0, 0)
def tb_X6_wishes : List (Nat × Instr) := [(0, .aload_n 0), (1, .getfield 148), (4, .ifCond .ne 6), (7, .bipush (-4)), (9, .ireturn), (10, .iconst 0), (11, .istore_n 1), (12, .aload_n 0), (13, .bipush (-9)), (15, .putfield 66), (18, .iconst 0), (19, .istore_n 2), (20, .iload_n 2), (21, .aload_n 0), (22, .getfield 148), (25, .if_icmp .ge 74), (28, .iload_n 2), (29, .iconst 1), (30, .iadd), (31, .istore_n 3), (32, .iload_n 3), (33, .aload_n 0), (34, .getfield 148), (37, .if_icmp .ge 56), (40, .aload_n 0), (41, .iload_n 2), (42, .iload_n 3), (43, .invokevirtual 229), (46, .istore 4), (48, .aload_n 0), (49, .iload 4), (51, .ifCond .eq 16), (54, .iload_n 1), (55, .ifCond .ne 12), (58, .bipush 6), (60, .iload_n 2), (61, .imul), (62, .iload_n 3), (63, .iadd), (64, .goto 7), (67, .aload_n 0), (68, .getfield 66), (71, .putfield 66), (74, .iload_n 1), (75, .iload 4), (77, .ifCond .eq 7), (80, .iconst 1), (81, .goto 4), (84, .iconst 0), (85, .iadd), (86, .istore_n 1), (87, .iinc 3 1), (90, .goto (-58)), (93, .iinc 2 1), (96, .goto (-76)), (99, .iload_n 1), (100, .ireturn)]
set_option maxRecDepth 100000 in
theorem ok_X6_wishes : jOk md_X6_wishes tb_X6_wishes := jOk_of (by decide +kernel)
def md_X6_victimsNow : MD := (yX6_victimsNow, cX6_victimsNow, 3, (some .int), 0, 0)
def tb_X6_victimsNow : List (Nat × Instr) := [(0, .iconst 0), (1, .istore_n 1), (2, .iconst 0), (3, .istore_n 2), (4, .iload_n 2), (5, .aload_n 0), (6, .getfield 148), (9, .if_icmp .ge 33), (12, .iload_n 1), (13, .aload_n 0), (14, .iload_n 2), (15, .invokevirtual 157), (18, .bipush (-9)), (20, .if_icmp .ne 7), (23, .iconst 0), (24, .goto 10), (27, .iconst 1), (28, .aload_n 0), (29, .iload_n 2), (30, .invokevirtual 157), (33, .ishl), (34, .ior), (35, .istore_n 1), (36, .iinc 2 1), (39, .goto (-35)), (42, .iload_n 1), (43, .ireturn)]
set_option maxRecDepth 100000 in
theorem ok_X6_victimsNow : jOk md_X6_victimsNow tb_X6_victimsNow := jOk_of (by decide +kernel)
def md_X6_leftOf : MD := (yX6_leftOf, cX6_leftOf, 4, (some .int), 0, 0)
def tb_X6_leftOf : List (Nat × Instr) := [(0, .iload_n 1), (1, .istore_n 2), (2, .iconst 0), (3, .istore_n 3), (4, .iload_n 3), (5, .aload_n 0), (6, .getfield 148), (9, .if_icmp .ge 60), (12, .aload_n 0), (13, .getfield 53), (16, .iload_n 3), (17, .iaload), (18, .aload_n 0), (19, .getfield 148), (22, .if_icmp .ge 41), (25, .aload_n 0), (26, .getfield 53), (29, .iload_n 3), (30, .iaload), (31, .iload_n 3), (32, .if_icmp .eq 16), (35, .iload_n 2), (36, .aload_n 0), (37, .getfield 53), (40, .iload_n 3), (41, .iaload), (42, .invokestatic 128), (45, .ifCond .ne 5), (48, .iconst (-1)), (49, .ireturn), (50, .iload_n 2), (51, .iconst 1), (52, .aload_n 0), (53, .getfield 53), (56, .iload_n 3), (57, .iaload), (58, .ishl), (59, .iconst (-1)), (60, .ixor), (61, .iand), (62, .istore_n 2), (63, .iinc 3 1), (66, .goto (-62)), (69, .iload_n 2), (70, .ireturn)]
set_option maxRecDepth 100000 in
theorem ok_X6_leftOf : jOk md_X6_leftOf tb_X6_leftOf := jOk_of (by decide +kernel)
def md_X6_nextTried : MD := (yX6_nextTried, cX6_nextTried, 2, (some .boolean), 0, 0)
def tb_X6_nextTried : List (Nat × Instr) := [(0, .aload_n 0), (1, .getfield 148), (4, .iconst 1), (5, .isub), (6, .istore_n 1), (7, .iload_n 1), (8, .ifCond .lt 29), (11, .aload_n 0), (12, .getfield 53), (15, .iload_n 1), (16, .iaload), (17, .aload_n 0), (18, .getfield 148), (21, .if_icmp .ne 16), (24, .aload_n 0), (25, .getfield 53), (28, .iload_n 1), (29, .iconst 0), (30, .iastore), (31, .iinc 1 (-1)), (34, .goto (-27)), (37, .iload_n 1), (38, .ifCond .ge 5), (41, .iconst 0), (42, .ireturn), (43, .aload_n 0), (44, .getfield 53), (47, .iload_n 1), (48, .dup2), (49, .iaload), (50, .iconst 1), (51, .iadd), (52, .iastore), (53, .iconst 1), (54, .ireturn)]
set_option maxRecDepth 100000 in
theorem ok_X6_nextTried : jOk md_X6_nextTried tb_X6_nextTried := jOk_of (by decide +kernel)
def md_X6_strengthsTried : MD := (yX6_strengthsTried, cX6_strengthsTried, 3, (some .int), 0, 0)
def tb_X6_strengthsTried : List (Nat × Instr) := [(0, .iconst 0), (1, .istore_n 1), (2, .iconst 0), (3, .istore_n 2), (4, .iload_n 2), (5, .aload_n 0), (6, .getfield 148), (9, .if_icmp .ge 40), (12, .iload_n 1), (13, .aload_n 0), (14, .getfield 53), (17, .iload_n 2), (18, .iaload), (19, .aload_n 0), (20, .getfield 148), (23, .if_icmp .ne 7), (26, .iconst 0), (27, .goto 14), (30, .aload_n 0), (31, .iload_n 2), (32, .aload_n 0), (33, .getfield 53), (36, .iload_n 2), (37, .iaload), (38, .invokevirtual 166), (41, .iadd), (42, .istore_n 1), (43, .iinc 2 1), (46, .goto (-42)), (49, .iload_n 1), (50, .ireturn)]
set_option maxRecDepth 100000 in
theorem ok_X6_strengthsTried : jOk md_X6_strengthsTried tb_X6_strengthsTried := jOk_of (by decide +kernel)
def md_X6_mildest : MD := (yX6_mildest, cX6_mildest, 7, (some .int), 0, 0)
def tb_X6_mildest : List (Nat × Instr) := [(0, .iload_n 1), (1, .invokestatic 77), (4, .ifCond .ne 5), (7, .iconst (-1)), (8, .ireturn), (9, .aload_n 0), (10, .getfield 148), (13, .ifCond .ne 6), (16, .bipush (-4)), (18, .ireturn), (19, .aload_n 0), (20, .invokevirtual 232), (23, .istore_n 2), (24, .bipush (-9)), (26, .istore_n 3), (27, .iconst 0), (28, .istore 4), (30, .iload 4), (32, .aload_n 0), (33, .getfield 148), (36, .if_icmp .ge 17), (39, .aload_n 0), (40, .getfield 53), (43, .iload 4), (45, .iconst 0), (46, .iastore), (47, .iinc 4 1), (50, .goto (-20)), (53, .iconst 1), (54, .istore 4), (56, .iload 4), (58, .ifCond .eq 106), (61, .aload_n 0), (62, .iload_n 2), (63, .invokevirtual 235), (66, .ifCond .ne 89), (69, .aload_n 0), (70, .invokevirtual 238), (73, .istore 5), (75, .iload_n 3), (76, .bipush (-9)), (78, .if_icmp .eq 9), (81, .iload 5), (83, .iload_n 3), (84, .if_icmp .ge 71), (87, .iload 5), (89, .istore_n 3), (90, .aload_n 0), (91, .iload_n 1), (92, .aload_n 0), (93, .getfield 148), (96, .invokevirtual 85), (99, .iconst 0), (100, .istore 6), (102, .iload 6), (104, .aload_n 0), (105, .getfield 148), (108, .if_icmp .ge 47), (111, .aload_n 0), (112, .getfield 28), (115, .bipush 40), (117, .iload_n 1), (118, .imul), (119, .iload 6), (121, .iadd), (122, .aload_n 0), (123, .getfield 53), (126, .iload 6), (128, .iaload), (129, .aload_n 0), (130, .getfield 148), (133, .if_icmp .ne 8), (136, .bipush (-9)), (138, .goto 10), (141, .aload_n 0), (142, .getfield 53), (145, .iload 6), (147, .iaload), (148, .iastore), (149, .iinc 6 1), (152, .goto (-50)), (155, .aload_n 0), (156, .invokevirtual 241), (159, .istore 4), (161, .goto (-105)), (164, .iload_n 3), (165, .ireturn)]
set_option maxRecDepth 100000 in
theorem ok_X6_mildest : jOk md_X6_mildest tb_X6_mildest := jOk_of (by decide +kernel)
def md_X6_isMap : MD := (yX6_isMap, cX6_isMap, 5, (some .boolean), 0, 0)
def tb_X6_isMap : List (Nat × Instr) := [(0, .iconst 1), (1, .istore_n 2), (2, .iconst 0), (3, .istore_n 3), (4, .iload_n 3), (5, .aload_n 0), (6, .getfield 148), (9, .if_icmp .ge 70), (12, .aload_n 0), (13, .getfield 28), (16, .bipush 40), (18, .iload_n 1), (19, .imul), (20, .iload_n 3), (21, .iadd), (22, .iaload), (23, .istore 4), (25, .iload_n 2), (26, .ifCond .eq 23), (29, .iload 4), (31, .bipush (-9)), (33, .if_icmp .eq 12), (36, .aload_n 0), (37, .iload 4), (39, .invokevirtual 154), (42, .ifCond .eq 7), (45, .iconst 1), (46, .goto 4), (49, .iconst 0), (50, .istore_n 2), (51, .aload_n 0), (52, .getfield 53), (55, .iload_n 3), (56, .iload 4), (58, .bipush (-9)), (60, .if_icmp .ne 10), (63, .aload_n 0), (64, .getfield 148), (67, .goto 5), (70, .iload 4), (72, .iastore), (73, .iinc 3 1), (76, .goto (-72)), (79, .iload_n 2), (80, .ifCond .eq 18), (83, .aload_n 0), (84, .aload_n 0), (85, .invokevirtual 232), (88, .invokevirtual 235), (91, .ifCond .ne 7), (94, .iconst 1), (95, .goto 4), (98, .iconst 0), (99, .ireturn)]
set_option maxRecDepth 100000 in
theorem ok_X6_isMap : jOk md_X6_isMap tb_X6_isMap := jOk_of (by decide +kernel)
def md_X6_none : MD := (yX6_none, cX6_none, 4, (some .int), 0, 0)
def tb_X6_none : List (Nat × Instr) := [(0, .iload_n 1), (1, .invokestatic 77), (4, .ifCond .ne 5), (7, .iconst (-1)), (8, .ireturn), (9, .aload_n 0), (10, .getfield 148), (13, .ifCond .ne 6), (16, .bipush (-4)), (18, .ireturn), (19, .aload_n 0), (20, .getfield 25), (23, .iload_n 1), (24, .iaload), (25, .ifCond .ge 9), (28, .aload_n 0), (29, .iconst 1), (30, .invokevirtual 81), (33, .ireturn), (34, .aload_n 0), (35, .getfield 25), (38, .iload_n 1), (39, .iaload), (40, .aload_n 0), (41, .getfield 148), (44, .if_icmp .eq 9), (47, .aload_n 0), (48, .iconst 5), (49, .invokevirtual 81), (52, .ireturn), (53, .aload_n 0), (54, .iload_n 1), (55, .invokevirtual 244), (58, .ifCond .ne 9), (61, .aload_n 0), (62, .iconst 3), (63, .invokevirtual 81), (66, .ireturn), (67, .iconst 1), (68, .istore_n 2), (69, .iconst 0), (70, .istore_n 3), (71, .iload_n 3), (72, .aload_n 0), (73, .getfield 148), (76, .if_icmp .ge 56), (79, .iload_n 2), (80, .ifCond .eq 44), (83, .aload_n 0), (84, .getfield 53), (87, .iload_n 3), (88, .iaload), (89, .aload_n 0), (90, .getfield 148), (93, .if_icmp .eq 27), (96, .aload_n 0), (97, .iload_n 3), (98, .aload_n 0), (99, .getfield 53), (102, .iload_n 3), (103, .iaload), (104, .invokevirtual 166), (107, .aload_n 0), (108, .aload_n 0), (109, .getfield 53), (112, .iload_n 3), (113, .iaload), (114, .invokevirtual 215), (117, .if_icmp .gt 7), (120, .iconst 1), (121, .goto 4), (124, .iconst 0), (125, .istore_n 2), (126, .iinc 3 1), (129, .goto (-58)), (132, .iload_n 2), (133, .ifCond .eq 7), (136, .iconst 1), (137, .goto 4), (140, .iconst 0), (141, .ireturn)]
set_option maxRecDepth 100000 in
theorem ok_X6_none : jOk md_X6_none tb_X6_none := jOk_of (by decide +kernel)
def md_X6_of : MD := (yX6_of, cX6_of, 2, (some .int), 0, 0)
def tb_X6_of : List (Nat × Instr) := [(0, .iload_n 0), (1, .iconst 3), (2, .iload_n 1), (3, .imul), (4, .ishr), (5, .bipush 7), (7, .iand), (8, .ireturn)]
set_option maxRecDepth 100000 in
theorem ok_X6_of : jOk md_X6_of tb_X6_of := jOk_of (by decide +kernel)
def md_X6_layMaps : MD := (yX6_layMaps, cX6_layMaps, 6, none, 0, 0)
def tb_X6_layMaps : List (Nat × Instr) := [(0, .aload_n 0), (1, .iconst 0), (2, .putfield 247), (5, .iconst 0), (6, .istore_n 2), (7, .iload_n 2), (8, .aload_n 0), (9, .getfield 148), (12, .if_icmp .ge 16), (15, .aload_n 0), (16, .getfield 53), (19, .iload_n 2), (20, .iconst 0), (21, .iastore), (22, .iinc 2 1), (25, .goto (-18)), (28, .aload_n 0), (29, .getfield 148), (32, .ifCond .le 7), (35, .iconst 1), (36, .goto 4), (39, .iconst 0), (40, .istore_n 2), (41, .iload_n 2), (42, .ifCond .eq 129), (45, .aload_n 0), (46, .iconst 1), (47, .aload_n 0), (48, .getfield 148), (51, .ishl), (52, .iconst 1), (53, .isub), (54, .invokevirtual 235), (57, .ifCond .ne 7), (60, .iconst 1), (61, .goto 4), (64, .iconst 0), (65, .istore_n 3), (66, .iconst 0), (67, .istore 4), (69, .iconst 0), (70, .istore 5), (72, .iload 5), (74, .aload_n 0), (75, .getfield 148), (78, .if_icmp .ge 60), (81, .iload 4), (83, .aload_n 0), (84, .getfield 53), (87, .iload 5), (89, .iaload), (90, .iconst 3), (91, .iload 5), (93, .imul), (94, .ishl), (95, .ior), (96, .istore 4), (98, .iload_n 3), (99, .ifCond .eq 31), (102, .iload_n 1), (103, .ifCond .eq 23), (106, .aload_n 0), (107, .getfield 22), (110, .iload 5), (112, .iaload), (113, .aload_n 0), (114, .getfield 53), (117, .iload 5), (119, .iaload), (120, .invokestatic 128), (123, .ifCond .ne 7), (126, .iconst 1), (127, .goto 4), (130, .iconst 0), (131, .istore_n 3), (132, .iinc 5 1), (135, .goto (-63)), (138, .iload_n 3), (139, .ifCond .eq 24), (142, .aload_n 0), (143, .getfield 56), (146, .aload_n 0), (147, .getfield 247), (150, .iload 4), (152, .iastore), (153, .aload_n 0), (154, .dup), (155, .getfield 247), (158, .iconst 1), (159, .iadd), (160, .putfield 247), (163, .aload_n 0), (164, .invokevirtual 241), (167, .istore_n 2), (168, .goto (-127)), (171, .return_)]
set_option maxRecDepth 100000 in
theorem ok_X6_layMaps : jOk md_X6_layMaps tb_X6_layMaps := jOk_of (by decide +kernel)
def md_X6_tellParts : MD := (yX6_tellParts, cX6_tellParts, 11, (some .int), 0, 0)
def tb_X6_tellParts : List (Nat × Instr) := [(0, .lload_n 1), (1, .lstore 5), (3, .lload_n 3), (4, .lstore 7), (6, .lload 7), (8, .lconst 0), (9, .lcmp), (10, .ifCond .eq 21), (13, .lload 5), (15, .lload 7), (17, .lrem), (18, .lstore 9), (20, .lload 7), (22, .lstore 5), (24, .lload 9), (26, .lstore 7), (28, .goto (-22)), (31, .aload_n 0), (32, .lload_n 1), (33, .lload 5), (35, .ldiv), (36, .putfield 250), (39, .aload_n 0), (40, .lload_n 3), (41, .lload 5), (43, .ldiv), (44, .putfield 37), (47, .iconst 1), (48, .ireturn)]
set_option maxRecDepth 100000 in
theorem ok_X6_tellParts : jOk md_X6_tellParts tb_X6_tellParts := jOk_of (by decide +kernel)
def md_X6_tellMany : MD := (yX6_tellMany, cX6_tellMany, 2, (some .int), 0, 0)
def tb_X6_tellMany : List (Nat × Instr) := [(0, .aload_n 0), (1, .iload_n 1), (2, .i2l), (3, .putfield 250), (6, .aload_n 0), (7, .lconst 1), (8, .putfield 37), (11, .iconst 1), (12, .ireturn)]
set_option maxRecDepth 100000 in
theorem ok_X6_tellMany : jOk md_X6_tellMany tb_X6_tellMany := jOk_of (by decide +kernel)
def md_X6_maps : MD := (yX6_maps, cX6_maps, 1, (some .int), 0, 0)
def tb_X6_maps : List (Nat × Instr) := [(0, .aload_n 0), (1, .getfield 148), (4, .ifCond .ne 6), (7, .bipush (-4)), (9, .ireturn), (10, .aload_n 0), (11, .iconst 1), (12, .invokevirtual 253), (15, .aload_n 0), (16, .aload_n 0), (17, .getfield 247), (20, .invokevirtual 257), (23, .ireturn)]
set_option maxRecDepth 100000 in
theorem ok_X6_maps : jOk md_X6_maps tb_X6_maps := jOk_of (by decide +kernel)
def md_X6_odds : MD := (yX6_odds, cX6_odds, 5, (some .int), 0, 0)
def tb_X6_odds : List (Nat × Instr) := [(0, .aload_n 0), (1, .iload_n 1), (2, .iload_n 2), (3, .invokevirtual 192), (6, .ifCond .ne 5), (9, .iconst (-1)), (10, .ireturn), (11, .aload_n 0), (12, .iconst 1), (13, .invokevirtual 253), (16, .aload_n 0), (17, .getfield 247), (20, .ifCond .ne 9), (23, .aload_n 0), (24, .iconst 4), (25, .invokevirtual 81), (28, .ireturn), (29, .iconst 0), (30, .istore_n 3), (31, .iconst 0), (32, .istore 4), (34, .iload 4), (36, .aload_n 0), (37, .getfield 247), (40, .if_icmp .ge 32), (43, .iload_n 3), (44, .aload_n 0), (45, .getfield 56), (48, .iload 4), (50, .iaload), (51, .iload_n 1), (52, .invokestatic 260), (55, .iload_n 2), (56, .if_icmp .ne 7), (59, .iconst 1), (60, .goto 4), (63, .iconst 0), (64, .iadd), (65, .istore_n 3), (66, .iinc 4 1), (69, .goto (-35)), (72, .aload_n 0), (73, .iload_n 3), (74, .i2l), (75, .aload_n 0), (76, .getfield 247), (79, .i2l), (80, .invokevirtual 263), (83, .ireturn)]
set_option maxRecDepth 100000 in
theorem ok_X6_odds : jOk md_X6_odds tb_X6_odds := jOk_of (by decide +kernel)
def md_X6_both : MD := (yX6_both, cX6_both, 5, (some .int), 0, 0)
def tb_X6_both : List (Nat × Instr) := [(0, .aload_n 0), (1, .iload_n 1), (2, .iload_n 2), (3, .invokevirtual 192), (6, .ifCond .ne 5), (9, .iconst (-1)), (10, .ireturn), (11, .aload_n 0), (12, .iconst 1), (13, .invokevirtual 253), (16, .aload_n 0), (17, .getfield 247), (20, .ifCond .ne 9), (23, .aload_n 0), (24, .iconst 4), (25, .invokevirtual 81), (28, .ireturn), (29, .iconst 0), (30, .istore_n 3), (31, .iconst 0), (32, .istore 4), (34, .iload 4), (36, .aload_n 0), (37, .getfield 247), (40, .if_icmp .ge 47), (43, .iload_n 3), (44, .aload_n 0), (45, .getfield 56), (48, .iload 4), (50, .iaload), (51, .iload_n 1), (52, .invokestatic 260), (55, .iload_n 2), (56, .if_icmp .ne 22), (59, .aload_n 0), (60, .getfield 56), (63, .iload 4), (65, .iaload), (66, .iload_n 2), (67, .invokestatic 260), (70, .iload_n 1), (71, .if_icmp .ne 7), (74, .iconst 1), (75, .goto 4), (78, .iconst 0), (79, .iadd), (80, .istore_n 3), (81, .iinc 4 1), (84, .goto (-50)), (87, .aload_n 0), (88, .iload_n 3), (89, .i2l), (90, .aload_n 0), (91, .getfield 247), (94, .i2l), (95, .invokevirtual 263), (98, .ireturn)]
set_option maxRecDepth 100000 in
theorem ok_X6_both : jOk md_X6_both tb_X6_both := jOk_of (by decide +kernel)
def md_X6_victimsOf : MD := (yX6_victimsOf, cX6_victimsOf, 5, (some .int), 0, 0)
def tb_X6_victimsOf : List (Nat × Instr) := [(0, .iconst 0), (1, .istore_n 3), (2, .iconst 0), (3, .istore 4), (5, .iload 4), (7, .aload_n 0), (8, .getfield 148), (11, .if_icmp .ge 33), (14, .iload_n 3), (15, .iload_n 2), (16, .iload 4), (18, .invokestatic 128), (21, .ifCond .eq 14), (24, .iconst 1), (25, .iload_n 1), (26, .iload 4), (28, .invokestatic 260), (31, .ishl), (32, .goto 4), (35, .iconst 0), (36, .ior), (37, .istore_n 3), (38, .iinc 4 1), (41, .goto (-36)), (44, .iload_n 3), (45, .ireturn)]
set_option maxRecDepth 100000 in
theorem ok_X6_victimsOf : jOk md_X6_victimsOf tb_X6_victimsOf := jOk_of (by decide +kernel)
def md_X6_layFits : MD := (yX6_layFits, cX6_layFits, 7, (some .int), 0, 0)
def tb_X6_layFits : List (Nat × Instr) := [(0, .aload_n 0), (1, .getfield 148), (4, .ifCond .ne 6), (7, .bipush (-4)), (9, .ireturn), (10, .aload_n 0), (11, .getfield 25), (14, .iload_n 1), (15, .iaload), (16, .ifCond .ge 9), (19, .aload_n 0), (20, .iconst 1), (21, .invokevirtual 81), (24, .ireturn), (25, .aload_n 0), (26, .getfield 25), (29, .iload_n 1), (30, .iaload), (31, .iconst 2), (32, .irem), (33, .ifCond .eq 9), (36, .aload_n 0), (37, .iconst 5), (38, .invokevirtual 81), (41, .ireturn), (42, .iconst 1), (43, .istore_n 2), (44, .iconst 0), (45, .istore_n 3), (46, .iload_n 3), (47, .aload_n 0), (48, .getfield 25), (51, .iload_n 1), (52, .iaload), (53, .if_icmp .ge 47), (56, .iload_n 2), (57, .ifCond .eq 35), (60, .aload_n 0), (61, .getfield 28), (64, .bipush 40), (66, .iload_n 1), (67, .imul), (68, .iload_n 3), (69, .iadd), (70, .iaload), (71, .i2l), (72, .lconst 0), (73, .iconst 1), (74, .aload_n 0), (75, .getfield 148), (78, .ishl), (79, .iconst 1), (80, .isub), (81, .i2l), (82, .invokestatic 71), (85, .ifCond .eq 7), (88, .iconst 1), (89, .goto 4), (92, .iconst 0), (93, .istore_n 2), (94, .iinc 3 1), (97, .goto (-51)), (100, .iload_n 2), (101, .ifCond .ne 9), (104, .aload_n 0), (105, .iconst 3), (106, .invokevirtual 81), (109, .ireturn), (110, .aload_n 0), (111, .iconst 0), (112, .invokevirtual 253), (115, .iconst 0), (116, .istore_n 3), (117, .iconst 0), (118, .istore 4), (120, .iload 4), (122, .aload_n 0), (123, .getfield 247), (126, .if_icmp .ge 110), (129, .iconst 1), (130, .istore 5), (132, .iconst 0), (133, .istore 6), (135, .iload 6), (137, .aload_n 0), (138, .getfield 25), (141, .iload_n 1), (142, .iaload), (143, .if_icmp .ge 61), (146, .iload 5), (148, .ifCond .eq 47), (151, .aload_n 0), (152, .aload_n 0), (153, .getfield 56), (156, .iload 4), (158, .iaload), (159, .aload_n 0), (160, .getfield 28), (163, .bipush 40), (165, .iload_n 1), (166, .imul), (167, .iload 6), (169, .iadd), (170, .iaload), (171, .invokevirtual 267), (174, .aload_n 0), (175, .getfield 28), (178, .bipush 40), (180, .iload_n 1), (181, .imul), (182, .iload 6), (184, .iadd), (185, .iconst 1), (186, .iadd), (187, .iaload), (188, .if_icmp .ne 7), (191, .iconst 1), (192, .goto 4), (195, .iconst 0), (196, .istore 5), (198, .iinc 6 2), (201, .goto (-66)), (204, .aload_n 0), (205, .getfield 56), (208, .iload_n 3), (209, .aload_n 0), (210, .getfield 56), (213, .iload 4), (215, .iaload), (216, .iastore), (217, .iload_n 3), (218, .iload 5), (220, .ifCond .eq 7), (223, .iconst 1), (224, .goto 4), (227, .iconst 0), (228, .iadd), (229, .istore_n 3), (230, .iinc 4 1), (233, .goto (-113)), (236, .aload_n 0), (237, .iload_n 3), (238, .putfield 247), (241, .iconst 0), (242, .ireturn)]
set_option maxRecDepth 100000 in
theorem ok_X6_layFits : jOk md_X6_layFits tb_X6_layFits := jOk_of (by decide +kernel)
def md_X6_fits : MD := (yX6_fits, cX6_fits, 3, (some .int), 0, 0)
def tb_X6_fits : List (Nat × Instr) := [(0, .iload_n 1), (1, .invokestatic 77), (4, .ifCond .ne 5), (7, .iconst (-1)), (8, .ireturn), (9, .aload_n 0), (10, .iload_n 1), (11, .invokevirtual 270), (14, .istore_n 2), (15, .iload_n 2), (16, .ifCond .eq 7), (19, .iload_n 2), (20, .goto 11), (23, .aload_n 0), (24, .aload_n 0), (25, .getfield 247), (28, .invokevirtual 257), (31, .ireturn)]
set_option maxRecDepth 100000 in
theorem ok_X6_fits : jOk md_X6_fits tb_X6_fits := jOk_of (by decide +kernel)
def md_X6_sure : MD := (yX6_sure, cX6_sure, 6, (some .int), 0, 0)
def tb_X6_sure : List (Nat × Instr) := [(0, .aload_n 0), (1, .iload_n 1), (2, .invokevirtual 154), (5, .ifCond .eq 10), (8, .iload_n 2), (9, .invokestatic 77), (12, .ifCond .ne 5), (15, .iconst (-1)), (16, .ireturn), (17, .aload_n 0), (18, .iload_n 2), (19, .invokevirtual 270), (22, .istore_n 3), (23, .iload_n 3), (24, .ifCond .eq 5), (27, .iload_n 3), (28, .ireturn), (29, .aload_n 0), (30, .getfield 247), (33, .ifCond .ne 9), (36, .aload_n 0), (37, .iconst 4), (38, .invokevirtual 81), (41, .ireturn), (42, .aload_n 0), (43, .getfield 56), (46, .iconst 0), (47, .iaload), (48, .iload_n 1), (49, .invokestatic 260), (52, .istore 4), (54, .iconst 1), (55, .istore 5), (57, .iload 5), (59, .aload_n 0), (60, .getfield 247), (63, .if_icmp .ge 34), (66, .aload_n 0), (67, .getfield 56), (70, .iload 5), (72, .iaload), (73, .iload_n 1), (74, .invokestatic 260), (77, .iload 4), (79, .if_icmp .ne 8), (82, .iload 4), (84, .goto 5), (87, .bipush (-9)), (89, .istore 4), (91, .iinc 5 1), (94, .goto (-37)), (97, .iload 4), (99, .ireturn)]
set_option maxRecDepth 100000 in
theorem ok_X6_sure : jOk md_X6_sure tb_X6_sure := jOk_of (by decide +kernel)
def md_X6_mostLeft : MD := (yX6_mostLeft, cX6_mostLeft, 5, (some .int), 0, 0)
def tb_X6_mostLeft : List (Nat × Instr) := [(0, .iconst 0), (1, .istore_n 2), (2, .iload_n 2), (3, .bipush 64), (5, .if_icmp .ge 16), (8, .aload_n 0), (9, .getfield 59), (12, .iload_n 2), (13, .iconst 0), (14, .iastore), (15, .iinc 2 1), (18, .goto (-16)), (21, .iconst 0), (22, .istore_n 2), (23, .iconst 0), (24, .istore_n 3), (25, .iload_n 3), (26, .aload_n 0), (27, .getfield 247), (30, .if_icmp .ge 56), (33, .aload_n 0), (34, .aload_n 0), (35, .getfield 56), (38, .iload_n 3), (39, .iaload), (40, .iload_n 1), (41, .invokevirtual 267), (44, .istore 4), (46, .aload_n 0), (47, .getfield 59), (50, .iload 4), (52, .dup2), (53, .iaload), (54, .iconst 1), (55, .iadd), (56, .iastore), (57, .aload_n 0), (58, .getfield 59), (61, .iload 4), (63, .iaload), (64, .iload_n 2), (65, .if_icmp .le 13), (68, .aload_n 0), (69, .getfield 59), (72, .iload 4), (74, .iaload), (75, .goto 4), (78, .iload_n 2), (79, .istore_n 2), (80, .iinc 3 1), (83, .goto (-58)), (86, .iload_n 2), (87, .ireturn)]
set_option maxRecDepth 100000 in
theorem ok_X6_mostLeft : jOk md_X6_mostLeft tb_X6_mostLeft := jOk_of (by decide +kernel)
def md_X6_ask : MD := (yX6_ask, cX6_ask, 7, (some .int), 0, 0)
def tb_X6_ask : List (Nat × Instr) := [(0, .iload_n 1), (1, .invokestatic 77), (4, .ifCond .ne 5), (7, .iconst (-1)), (8, .ireturn), (9, .aload_n 0), (10, .iload_n 1), (11, .invokevirtual 270), (14, .istore_n 2), (15, .iload_n 2), (16, .ifCond .eq 5), (19, .iload_n 2), (20, .ireturn), (21, .aload_n 0), (22, .getfield 247), (25, .ifCond .ne 9), (28, .aload_n 0), (29, .iconst 4), (30, .invokevirtual 81), (33, .ireturn), (34, .iconst 0), (35, .istore_n 3), (36, .aload_n 0), (37, .getfield 247), (40, .istore 4), (42, .iconst 1), (43, .istore 5), (45, .iload 5), (47, .iconst 1), (48, .aload_n 0), (49, .getfield 148), (52, .ishl), (53, .if_icmp .ge 47), (56, .aload_n 0), (57, .iload 5), (59, .invokevirtual 273), (62, .istore 6), (64, .iload 6), (66, .iload 4), (68, .if_icmp .ge 8), (71, .iload 5), (73, .goto 4), (76, .iload_n 3), (77, .istore_n 3), (78, .iload 6), (80, .iload 4), (82, .if_icmp .ge 8), (85, .iload 6), (87, .goto 5), (90, .iload 4), (92, .istore 4), (94, .iinc 5 1), (97, .goto (-52)), (100, .aload_n 0), (101, .iload 4), (103, .putfield 66), (106, .iload_n 3), (107, .ireturn)]
set_option maxRecDepth 100000 in
theorem ok_X6_ask : jOk md_X6_ask tb_X6_ask := jOk_of (by decide +kernel)
def md_X6_lots : MD := (yX6_lots, cX6_lots, 9, (some .int), 0, 0)
def tb_X6_lots : List (Nat × Instr) := [(0, .iload_n 1), (1, .i2l), (2, .lconst 1), (3, .ldc2_w 276), (6, .invokestatic 71), (9, .ifCond .eq 15), (12, .iload_n 2), (13, .i2l), (14, .lconst 1), (15, .ldc2_w 278), (18, .invokestatic 71), (21, .ifCond .ne 5), (24, .iconst (-1)), (25, .ireturn), (26, .aload_n 0), (27, .getfield 148), (30, .ifCond .ne 6), (33, .bipush (-4)), (35, .ireturn), (36, .aload_n 0), (37, .getfield 7), (40, .iconst 0), (41, .iaload), (42, .iload_n 1), (43, .iadd), (44, .bipush 40), (46, .if_icmp .le 6), (49, .bipush (-2)), (51, .ireturn), (52, .iload_n 2), (53, .i2l), (54, .lstore_n 3), (55, .iconst 0), (56, .istore 5), (58, .iconst 0), (59, .istore 6), (61, .iload 6), (63, .iload_n 1), (64, .if_icmp .ge 88), (67, .iconst 0), (68, .istore 7), (70, .iload 7), (72, .aload_n 0), (73, .getfield 148), (76, .if_icmp .ge 61), (79, .lload_n 3), (80, .ldc2_w 280), (83, .lmul), (84, .ldc2_w 282), (87, .lrem), (88, .lstore_n 3), (89, .lload_n 3), (90, .ldc2_w 284), (93, .ldiv), (94, .ldc2_w 75), (97, .lrem), (98, .l2i), (99, .istore 8), (101, .aload_n 0), (102, .getfield 50), (105, .iload 7), (107, .iload 8), (109, .iconst 2), (110, .if_icmp .ne 18), (113, .aload_n 0), (114, .iload 7), (116, .invokevirtual 157), (119, .bipush (-9)), (121, .if_icmp .ne 7), (124, .iconst 1), (125, .goto 5), (128, .iload 8), (130, .iastore), (131, .iinc 7 1), (134, .goto (-64)), (137, .iload 5), (139, .aload_n 0), (140, .invokevirtual 203), (143, .iadd), (144, .istore 5), (146, .iinc 6 1), (149, .goto (-88)), (152, .iload 5), (154, .ireturn)]
set_option maxRecDepth 100000 in
theorem ok_X6_lots : jOk md_X6_lots tb_X6_lots := jOk_of (by decide +kernel)
def md_X6_asked : MD := (yX6_asked, cX6_asked, 1, (some .int), 0, 0)
def tb_X6_asked : List (Nat × Instr) := [(0, .aload_n 0), (1, .getfield 66), (4, .ireturn)]
set_option maxRecDepth 100000 in
theorem ok_X6_asked : jOk md_X6_asked tb_X6_asked := jOk_of (by decide +kernel)
def md_X6_upper : MD := (yX6_upper, cX6_upper, 1, (some .long), 0, 0)
def tb_X6_upper : List (Nat × Instr) := [(0, .aload_n 0), (1, .getfield 250), (4, .lreturn)]
set_option maxRecDepth 100000 in
theorem ok_X6_upper : jOk md_X6_upper tb_X6_upper := jOk_of (by decide +kernel)
def md_X6_lower : MD := (yX6_lower, cX6_lower, 1, (some .long), 0, 0)
def tb_X6_lower : List (Nat × Instr) := [(0, .aload_n 0), (1, .getfield 37), (4, .lreturn)]
set_option maxRecDepth 100000 in
theorem ok_X6_lower : jOk md_X6_lower tb_X6_lower := jOk_of (by decide +kernel)
def md_X6_sumFrom : MD := (yX6_sumFrom, cX6_sumFrom, 4, (some .int), 0, 0)
def tb_X6_sumFrom : List (Nat × Instr) := [(0, .iconst 0), (1, .istore_n 2), (2, .iconst 0), (3, .istore_n 3), (4, .iload_n 3), (5, .aload_n 0), (6, .getfield 148), (9, .if_icmp .ge 20), (12, .iload_n 2), (13, .aload_n 0), (14, .getfield 7), (17, .iload_n 1), (18, .iload_n 3), (19, .iadd), (20, .iaload), (21, .iadd), (22, .istore_n 2), (23, .iinc 3 1), (26, .goto (-22)), (29, .iload_n 2), (30, .ireturn)]
set_option maxRecDepth 100000 in
theorem ok_X6_sumFrom : jOk md_X6_sumFrom tb_X6_sumFrom := jOk_of (by decide +kernel)
def md_X6_zealots : MD := (yX6_zealots, cX6_zealots, 3, (some .int), 0, 0)
def tb_X6_zealots : List (Nat × Instr) := [(0, .iconst 0), (1, .istore_n 1), (2, .iconst 0), (3, .istore_n 2), (4, .iload_n 2), (5, .aload_n 0), (6, .getfield 148), (9, .if_icmp .ge 26), (12, .iload_n 1), (13, .aload_n 0), (14, .iload_n 2), (15, .iconst 1), (16, .invokevirtual 177), (19, .ifCond .eq 7), (22, .iconst 1), (23, .goto 4), (26, .iconst 0), (27, .iadd), (28, .istore_n 1), (29, .iinc 2 1), (32, .goto (-28)), (35, .iload_n 1), (36, .ireturn)]
set_option maxRecDepth 100000 in
theorem ok_X6_zealots : jOk md_X6_zealots tb_X6_zealots := jOk_of (by decide +kernel)
def md_X6_thereOf : MD := (yX6_thereOf, cX6_thereOf, 4, (some .int), 0, 0)
def tb_X6_thereOf : List (Nat × Instr) := [(0, .iconst 0), (1, .istore_n 2), (2, .iconst 0), (3, .istore_n 3), (4, .iload_n 3), (5, .bipush 6), (7, .if_icmp .ge 90), (10, .iload_n 2), (11, .iload_n 1), (12, .bipush 7), (14, .if_icmp .ne 20), (17, .aload_n 0), (18, .getfield 25), (21, .iload_n 3), (22, .iaload), (23, .ifCond .ge 7), (26, .iconst 0), (27, .goto 62), (30, .iconst 1), (31, .goto 58), (34, .iload_n 1), (35, .bipush 8), (37, .if_icmp .ne 25), (40, .iload_n 3), (41, .iconst 4), (42, .if_icmp .ge 16), (45, .aload_n 0), (46, .getfield 31), (49, .iload_n 3), (50, .iaload), (51, .ifCond .lt 7), (54, .iconst 1), (55, .goto 34), (58, .iconst 0), (59, .goto 30), (62, .iload_n 3), (63, .iconst 3), (64, .if_icmp .ge 24), (67, .aload_n 0), (68, .getfield 7), (71, .sipush 780), (74, .iconst 1), (75, .iload_n 3), (76, .iadd), (77, .imul), (78, .iconst 0), (79, .iadd), (80, .iaload), (81, .ifCond .lt 7), (84, .iconst 1), (85, .goto 4), (88, .iconst 0), (89, .iadd), (90, .istore_n 2), (91, .iinc 3 1), (94, .goto (-90)), (97, .iload_n 2), (98, .ireturn)]
set_option maxRecDepth 100000 in
theorem ok_X6_thereOf : jOk md_X6_thereOf tb_X6_thereOf := jOk_of (by decide +kernel)
def md_X6_countOf : MD := (yX6_countOf, cX6_countOf, 2, (some .int), 0, 0)
def tb_X6_countOf : List (Nat × Instr) := [(0, .iload_n 1), (44, .aload_n 0), (45, .getfield 148), (48, .ireturn), (49, .aload_n 0), (50, .invokevirtual 232), (53, .invokestatic 183), (56, .ireturn), (57, .aload_n 0), (58, .getfield 151), (61, .ireturn), (62, .aload_n 0), (63, .getfield 7), (66, .iconst 0), (67, .iaload), (68, .ireturn), (69, .aload_n 0), (70, .getfield 7), (73, .bipush 19), (75, .iaload), (76, .invokestatic 183), (79, .ireturn), (80, .aload_n 0), (81, .bipush 13), (83, .invokevirtual 286), (86, .ireturn), (87, .aload_n 0), (88, .invokevirtual 289), (91, .ireturn), (92, .aload_n 0), (93, .iload_n 1), (94, .invokevirtual 292), (97, .ireturn)]
set_option maxRecDepth 100000 in
theorem ok_X6_countOf : jOk md_X6_countOf tb_X6_countOf := jOk_of (by decide +kernel)
def md_X6_count : MD := (yX6_count, cX6_count, 2, (some .int), 0, 0)
def tb_X6_count : List (Nat × Instr) := [(0, .iload_n 1), (1, .i2l), (2, .lconst 0), (3, .ldc2_w 218), (6, .invokestatic 71), (9, .ifCond .eq 11), (12, .aload_n 0), (13, .iload_n 1), (14, .invokevirtual 295), (17, .goto 4), (20, .iconst (-1)), (21, .ireturn)]
set_option maxRecDepth 100000 in
theorem ok_X6_count : jOk md_X6_count tb_X6_count := jOk_of (by decide +kernel)
def md_X6_finding : MD := (yX6_finding, cX6_finding, 1, (some .int), 0, 0)
def tb_X6_finding : List (Nat × Instr) := [(0, .aload_n 0), (1, .getfield 62), (4, .ireturn)]
set_option maxRecDepth 100000 in
theorem ok_X6_finding : jOk md_X6_finding tb_X6_finding := jOk_of (by decide +kernel)
def md_X6_findings : MD := (yX6_findings, cX6_findings, 2, (some .int), 0, 0)
def tb_X6_findings : List (Nat × Instr) := [(0, .iload_n 1), (1, .i2l), (2, .lconst 1), (3, .ldc2_w 69), (6, .invokestatic 71), (9, .ifCond .eq 12), (12, .aload_n 0), (13, .getfield 41), (16, .iload_n 1), (17, .iaload), (18, .goto 4), (21, .iconst (-1)), (22, .ireturn)]
set_option maxRecDepth 100000 in
theorem ok_X6_findings : jOk md_X6_findings tb_X6_findings := jOk_of (by decide +kernel)
def md_X6_digest : MD := (yX6_digest, cX6_digest, 5, (some .long), 0, 0)
def tb_X6_digest : List (Nat × Instr) := [(0, .ldc2_w 298), (3, .lstore_n 1), (4, .iconst 0), (5, .istore_n 3), (6, .iload_n 3), (7, .bipush 10), (9, .if_icmp .ge 22), (12, .ldc2_w 300), (15, .lload_n 1), (16, .lmul), (17, .aload_n 0), (18, .iload_n 3), (19, .invokevirtual 295), (22, .i2l), (23, .ladd), (24, .lstore_n 1), (25, .iinc 3 1), (28, .goto (-22)), (31, .iconst 0), (32, .istore_n 3), (33, .iload_n 3), (34, .bipush 9), (36, .aload_n 0), (37, .getfield 148), (40, .imul), (41, .if_icmp .ge 29), (44, .ldc2_w 300), (47, .lload_n 1), (48, .lmul), (49, .aload_n 0), (50, .iload_n 3), (51, .bipush 9), (53, .idiv), (54, .iload_n 3), (55, .bipush 9), (57, .irem), (58, .invokevirtual 174), (61, .i2l), (62, .ladd), (63, .lstore_n 1), (64, .iinc 3 1), (67, .goto (-34)), (70, .iconst 1), (71, .istore_n 3), (72, .iload_n 3), (73, .iconst 4), (74, .if_icmp .ge 29), (77, .ldc2_w 300), (80, .lload_n 1), (81, .lmul), (82, .aload_n 0), (83, .getfield 7), (86, .sipush 780), (89, .iload_n 3), (90, .imul), (91, .iconst 0), (92, .iadd), (93, .iaload), (94, .i2l), (95, .ladd), (96, .lstore_n 1), (97, .iinc 3 1), (100, .goto (-28)), (103, .iconst 0), (104, .istore_n 3), (105, .iload_n 3), (106, .bipush 6), (108, .if_icmp .ge 63), (111, .ldc2_w 300), (114, .lload_n 1), (115, .lmul), (116, .aload_n 0), (117, .getfield 25), (120, .iload_n 3), (121, .iaload), (122, .i2l), (123, .ladd), (124, .lstore_n 1), (125, .iconst 0), (126, .istore 4), (128, .iload 4), (130, .aload_n 0), (131, .getfield 25), (134, .iload_n 3), (135, .iaload), (136, .if_icmp .ge 29), (139, .ldc2_w 300), (142, .lload_n 1), (143, .lmul), (144, .aload_n 0), (145, .getfield 28), (148, .bipush 40), (150, .iload_n 3), (151, .imul), (152, .iload 4), (154, .iadd), (155, .iaload), (156, .i2l), (157, .ladd), (158, .lstore_n 1), (159, .iinc 4 1), (162, .goto (-34)), (165, .iinc 3 1), (168, .goto (-63)), (171, .iconst 0), (172, .istore_n 3), (173, .iload_n 3), (174, .iconst 4), (175, .if_icmp .ge 63), (178, .ldc2_w 300), (181, .lload_n 1), (182, .lmul), (183, .aload_n 0), (184, .getfield 31), (187, .iload_n 3), (188, .iaload), (189, .i2l), (190, .ladd), (191, .lstore_n 1), (192, .iconst 0), (193, .istore 4), (195, .iload 4), (197, .aload_n 0), (198, .getfield 31), (201, .iload_n 3), (202, .iaload), (203, .if_icmp .ge 29), (206, .ldc2_w 300), (209, .lload_n 1), (210, .lmul), (211, .aload_n 0), (212, .getfield 34), (215, .bipush 60), (217, .iload_n 3), (218, .imul), (219, .iload 4), (221, .iadd), (222, .iaload), (223, .i2l), (224, .ladd), (225, .lstore_n 1), (226, .iinc 4 1), (229, .goto (-34)), (232, .iinc 3 1), (235, .goto (-62)), (238, .lload_n 1), (239, .lreturn)]
set_option maxRecDepth 100000 in
theorem ok_X6_digest : jOk md_X6_digest tb_X6_digest := jOk_of (by decide +kernel)
end
section
set_option maxRecDepth 100000 in
theorem mo_RX0_3 : Cond.methodLink RX0 3 Lib.objectInit ∈ jBG := jBG_of 149 (by decide +kernel) (by decide +kernel)
set_option maxRecDepth 100000 in
theorem oi_i : Cond.instanceMethod Lib.objectInit ∈ jBG := jBG_of 105 (by decide +kernel) (by decide +kernel)
set_option maxRecDepth 100000 in
theorem oi_c : Cond.code Lib.objectInit ⟨#[0xb1]⟩ 1 none ∈ jBG := jBG_of 106 (by decide +kernel) (by decide +kernel)
set_option maxRecDepth 100000 in
theorem ac_int : Cond.arrayClass .int ∈ jBG := jBG_of 119 (by decide +kernel) (by decide +kernel)
set_option maxRecDepth 100000 in
theorem fp_RX0_9_i : jFP RX0 "<init>" 9 0 0 (.array .int) := ⟨RX0, TX0, 5, rfl, by decide, by decide +kernel, Or.inr ⟨rfl, rfl, rfl, jBG_of 150 (by decide +kernel) (by decide +kernel)⟩⟩
set_option maxRecDepth 100000 in
theorem fp_RX0_15_i : jFP RX0 "<init>" 15 0 1 (.array .int) := ⟨RX0, TX0, 5, rfl, by decide, by decide +kernel, Or.inr ⟨rfl, rfl, rfl, jBG_of 151 (by decide +kernel) (by decide +kernel)⟩⟩
set_option maxRecDepth 100000 in
theorem fp_RX0_18_i : jFP RX0 "<init>" 18 0 2 (.array .int) := ⟨RX0, TX0, 5, rfl, by decide, by decide +kernel, Or.inr ⟨rfl, rfl, rfl, jBG_of 152 (by decide +kernel) (by decide +kernel)⟩⟩
set_option maxRecDepth 100000 in
theorem lc_RJ6_265 : Cond.constant RJ6 265 1431655765 ∈ jBG := jBG_of 509 (by decide +kernel) (by decide +kernel)
set_option maxRecDepth 100000 in
theorem lc_RJ6_266 : Cond.constant RJ6 266 858993459 ∈ jBG := jBG_of 510 (by decide +kernel) (by decide +kernel)
set_option maxRecDepth 100000 in
theorem lc_RJ6_267 : Cond.constant RJ6 267 252645135 ∈ jBG := jBG_of 511 (by decide +kernel) (by decide +kernel)
set_option maxRecDepth 100000 in
theorem fl_RX0_21 : jFL RX0 21 0 3 := ⟨RX0, TX0, 5, rfl, by decide, Or.inl (jBG_of 153 (by decide +kernel) (by decide +kernel))⟩
set_option maxRecDepth 100000 in
theorem fl_RX0_9 : jFL RX0 9 0 0 := ⟨RX0, TX0, 5, rfl, by decide, Or.inl (jBG_of 150 (by decide +kernel) (by decide +kernel))⟩
set_option maxRecDepth 100000 in
theorem fp_RX0_21 (nm : String) : jFP RX0 nm 21 0 3 .int := ⟨RX0, TX0, 5, rfl, by decide, by decide +kernel, Or.inl ⟨rfl, Or.inl (jBG_of 153 (by decide +kernel) (by decide +kernel))⟩⟩
set_option maxRecDepth 100000 in
theorem fl_RX0_30 : jFL RX0 30 0 4 := ⟨RX0, TX0, 5, rfl, by decide, Or.inl (jBG_of 155 (by decide +kernel) (by decide +kernel))⟩
set_option maxRecDepth 100000 in
theorem ml_RX0_39 : Cond.methodLink RX0 39 yX0_add ∈ jBG := jBG_of 663 (by decide +kernel) (by decide +kernel)
set_option maxRecDepth 100000 in
theorem yv_X0_add : jYV md_X0_add 2 0 := ⟨⟨jBG_of 666 (by decide +kernel) (by decide +kernel), jBG_of 91 (by decide +kernel) (by decide +kernel), by decide +kernel, by decide +kernel, by decide +kernel⟩, jBG_of 665 (by decide +kernel) (by decide +kernel), jBG_of 25 (by decide +kernel) (by decide +kernel), TX0, 5, rfl⟩
set_option maxRecDepth 100000 in
theorem fl_RX0_15 : jFL RX0 15 0 1 := ⟨RX0, TX0, 5, rfl, by decide, Or.inl (jBG_of 151 (by decide +kernel) (by decide +kernel))⟩
set_option maxRecDepth 100000 in
theorem mn_RX0_43 : Cond.methodLinkNest RX0 43 yX5_isIn "EnemyByLot" ∈ lw_tbl := List.mem_of_getElem? (i := 667) (by decide +kernel)
set_option maxRecDepth 100000 in
theorem ys_X5_isIn : jYS md_X5_isIn 2 := ⟨⟨jBG_of 404 (by decide +kernel) (by decide +kernel), jBG_of 88 (by decide +kernel) (by decide +kernel), by decide +kernel, by decide +kernel, by decide +kernel⟩, jBG_of 403 (by decide +kernel) (by decide +kernel)⟩
set_option maxRecDepth 100000 in
theorem ml_RX0_35 : Cond.methodLink RX0 35 yX0_draw ∈ jBG := jBG_of 660 (by decide +kernel) (by decide +kernel)
set_option maxRecDepth 100000 in
theorem ys_X0_draw : jYS md_X0_draw 4 := ⟨⟨jBG_of 662 (by decide +kernel) (by decide +kernel), jBG_of 91 (by decide +kernel) (by decide +kernel), by decide +kernel, by decide +kernel, by decide +kernel⟩, jBG_of 661 (by decide +kernel) (by decide +kernel)⟩
set_option maxRecDepth 100000 in
theorem ml_RX0_47 : Cond.methodLink RX0 47 yJ6_bitCount_0f7a4 ∈ jBG := jBG_of 668 (by decide +kernel) (by decide +kernel)
set_option maxRecDepth 100000 in
theorem ys_J6_bitCount_0f7a4 : jYS md_J6_bitCount_0f7a4 1 := ⟨⟨jBG_of 508 (by decide +kernel) (by decide +kernel), jBG_of 97 (by decide +kernel) (by decide +kernel), by decide +kernel, by decide +kernel, by decide +kernel⟩, jBG_of 507 (by decide +kernel) (by decide +kernel)⟩
set_option maxRecDepth 100000 in
theorem fl_RX1_27 : jFL RX1 27 1 5 := ⟨RX1, TX1, 7, rfl, by decide, Or.inl (jBG_of 178 (by decide +kernel) (by decide +kernel))⟩
set_option maxRecDepth 100000 in
theorem ml_RX1_34 : Cond.methodLink RX1 34 yX1_has ∈ jBG := jBG_of 225 (by decide +kernel) (by decide +kernel)
set_option maxRecDepth 100000 in
theorem yv_X1_has : jYV md_X1_has 1 1 := ⟨⟨jBG_of 228 (by decide +kernel) (by decide +kernel), jBG_of 92 (by decide +kernel) (by decide +kernel), by decide +kernel, by decide +kernel, by decide +kernel⟩, jBG_of 226 (by decide +kernel) (by decide +kernel), jBG_of 227 (by decide +kernel) (by decide +kernel), TX1, 7, rfl⟩
set_option maxRecDepth 100000 in
theorem fl_RX1_21 : jFL RX1 21 1 3 := ⟨RX1, TX1, 7, rfl, by decide, Or.inl (jBG_of 176 (by decide +kernel) (by decide +kernel))⟩
set_option maxRecDepth 100000 in
theorem fl_RX0_25 : jFL RX0 25 1 5 := ⟨RX1, TX1, 7, rfl, by decide, Or.inr ⟨"EnemyByLot", List.mem_of_getElem? (i := 179) (by decide +kernel)⟩⟩
set_option maxRecDepth 100000 in
theorem fp_RX0_30 (nm : String) : jFP RX0 nm 30 0 4 .int := ⟨RX0, TX0, 5, rfl, by decide, by decide +kernel, Or.inl ⟨rfl, Or.inl (jBG_of 155 (by decide +kernel) (by decide +kernel))⟩⟩
set_option maxRecDepth 100000 in
theorem ml_RX0_31 : Cond.methodLink RX0 31 yX1_lovedBy ∈ jBG := jBG_of 659 (by decide +kernel) (by decide +kernel)
set_option maxRecDepth 100000 in
theorem yv_X1_lovedBy : jYV md_X1_lovedBy 1 1 := ⟨⟨jBG_of 401 (by decide +kernel) (by decide +kernel), jBG_of 92 (by decide +kernel) (by decide +kernel), by decide +kernel, by decide +kernel, by decide +kernel⟩, jBG_of 399 (by decide +kernel) (by decide +kernel), jBG_of 400 (by decide +kernel) (by decide +kernel), TX1, 7, rfl⟩
set_option maxRecDepth 100000 in
theorem ml_RX0_52 : Cond.methodLink RX0 52 yX0_victimsOf ∈ jBG := jBG_of 737 (by decide +kernel) (by decide +kernel)
set_option maxRecDepth 100000 in
theorem yv_X0_victimsOf : jYV md_X0_victimsOf 2 0 := ⟨⟨jBG_of 740 (by decide +kernel) (by decide +kernel), jBG_of 91 (by decide +kernel) (by decide +kernel), by decide +kernel, by decide +kernel, by decide +kernel⟩, jBG_of 739 (by decide +kernel) (by decide +kernel), jBG_of 32 (by decide +kernel) (by decide +kernel), TX0, 5, rfl⟩
set_option maxRecDepth 100000 in
theorem ml_RX0_56 : Cond.methodLink RX0 56 yX0_victimIn ∈ jBG := jBG_of 712 (by decide +kernel) (by decide +kernel)
set_option maxRecDepth 100000 in
theorem yv_X0_victimIn : jYV md_X0_victimIn 2 0 := ⟨⟨jBG_of 676 (by decide +kernel) (by decide +kernel), jBG_of 91 (by decide +kernel) (by decide +kernel), by decide +kernel, by decide +kernel, by decide +kernel⟩, jBG_of 674 (by decide +kernel) (by decide +kernel), jBG_of 675 (by decide +kernel) (by decide +kernel), TX0, 5, rfl⟩
set_option maxRecDepth 100000 in
theorem fl_RX0_18 : jFL RX0 18 0 2 := ⟨RX0, TX0, 5, rfl, by decide, Or.inl (jBG_of 152 (by decide +kernel) (by decide +kernel))⟩
set_option maxRecDepth 100000 in
theorem ml_RX0_59 : Cond.methodLink RX0 59 yJ7_fill_53178 ∈ jBG := jBG_of 757 (by decide +kernel) (by decide +kernel)
set_option maxRecDepth 100000 in
theorem ys_J7_fill_53178 : jYS md_J7_fill_53178 2 := ⟨⟨jBG_of 759 (by decide +kernel) (by decide +kernel), jBG_of 98 (by decide +kernel) (by decide +kernel), by decide +kernel, by decide +kernel, by decide +kernel⟩, jBG_of 758 (by decide +kernel) (by decide +kernel)⟩
set_option maxRecDepth 100000 in
theorem mm_RX0_65 : Cond.methodLink RX0 65 Lib.Math.max.name ∈ jBG := jBG_of 760 (by decide +kernel) (by decide +kernel)
set_option maxRecDepth 100000 in
theorem mw_max : Cond.static Lib.Math.max.name ∈ jBG ∧ Cond.initialized "java/lang/Math" ∈ jBG ∧ Cond.code Lib.Math.max.name Lib.Math.max.code 2 (some .int) ∈ jBG := ⟨jBG_of 206 (by decide +kernel) (by decide +kernel), jBG_of 94 (by decide +kernel) (by decide +kernel), jBG_of 207 (by decide +kernel) (by decide +kernel)⟩
set_option maxRecDepth 100000 in
theorem mo_RX1_3 : Cond.methodLink RX1 3 Lib.objectInit ∈ jBG := jBG_of 172 (by decide +kernel) (by decide +kernel)
set_option maxRecDepth 100000 in
theorem fp_RX1_9_i : jFP RX1 "<init>" 9 1 0 (.array .int) := ⟨RX1, TX1, 7, rfl, by decide, by decide +kernel, Or.inr ⟨rfl, rfl, rfl, jBG_of 173 (by decide +kernel) (by decide +kernel)⟩⟩
set_option maxRecDepth 100000 in
theorem fp_RX1_15_i : jFP RX1 "<init>" 15 1 1 (.array .int) := ⟨RX1, TX1, 7, rfl, by decide, by decide +kernel, Or.inr ⟨rfl, rfl, rfl, jBG_of 174 (by decide +kernel) (by decide +kernel)⟩⟩
set_option maxRecDepth 100000 in
theorem fp_RX1_18_i : jFP RX1 "<init>" 18 1 2 (.array .int) := ⟨RX1, TX1, 7, rfl, by decide, by decide +kernel, Or.inr ⟨rfl, rfl, rfl, jBG_of 175 (by decide +kernel) (by decide +kernel)⟩⟩
set_option maxRecDepth 100000 in
theorem fp_RX1_21_i : jFP RX1 "<init>" 21 1 3 (.array .int) := ⟨RX1, TX1, 7, rfl, by decide, by decide +kernel, Or.inr ⟨rfl, rfl, rfl, jBG_of 176 (by decide +kernel) (by decide +kernel)⟩⟩
set_option maxRecDepth 100000 in
theorem fp_RX1_24_i : jFP RX1 "<init>" 24 1 4 (.array .int) := ⟨RX1, TX1, 7, rfl, by decide, by decide +kernel, Or.inr ⟨rfl, rfl, rfl, jBG_of 177 (by decide +kernel) (by decide +kernel)⟩⟩
set_option maxRecDepth 100000 in
theorem fp_RX1_27 (nm : String) : jFP RX1 nm 27 1 5 .int := ⟨RX1, TX1, 7, rfl, by decide, by decide +kernel, Or.inl ⟨rfl, Or.inl (jBG_of 178 (by decide +kernel) (by decide +kernel))⟩⟩
set_option maxRecDepth 100000 in
theorem fp_RX1_31 (nm : String) : jFP RX1 nm 31 1 6 .int := ⟨RX1, TX1, 7, rfl, by decide, by decide +kernel, Or.inl ⟨rfl, Or.inl (jBG_of 182 (by decide +kernel) (by decide +kernel))⟩⟩
set_option maxRecDepth 100000 in
theorem fl_RX1_9 : jFL RX1 9 1 0 := ⟨RX1, TX1, 7, rfl, by decide, Or.inl (jBG_of 173 (by decide +kernel) (by decide +kernel))⟩
set_option maxRecDepth 100000 in
theorem fl_RX1_15 : jFL RX1 15 1 1 := ⟨RX1, TX1, 7, rfl, by decide, Or.inl (jBG_of 174 (by decide +kernel) (by decide +kernel))⟩
set_option maxRecDepth 100000 in
theorem fl_RX1_18 : jFL RX1 18 1 2 := ⟨RX1, TX1, 7, rfl, by decide, Or.inl (jBG_of 175 (by decide +kernel) (by decide +kernel))⟩
set_option maxRecDepth 100000 in
theorem fl_RX1_24 : jFL RX1 24 1 4 := ⟨RX1, TX1, 7, rfl, by decide, Or.inl (jBG_of 177 (by decide +kernel) (by decide +kernel))⟩
set_option maxRecDepth 100000 in
theorem fl_RX1_31 : jFL RX1 31 1 6 := ⟨RX1, TX1, 7, rfl, by decide, Or.inl (jBG_of 182 (by decide +kernel) (by decide +kernel))⟩
set_option maxRecDepth 100000 in
theorem ml_RX1_38 : Cond.methodLink RX1 38 yX1_kindOf ∈ jBG := jBG_of 486 (by decide +kernel) (by decide +kernel)
set_option maxRecDepth 100000 in
theorem yv_X1_kindOf : jYV md_X1_kindOf 1 1 := ⟨⟨jBG_of 447 (by decide +kernel) (by decide +kernel), jBG_of 92 (by decide +kernel) (by decide +kernel), by decide +kernel, by decide +kernel, by decide +kernel⟩, jBG_of 445 (by decide +kernel) (by decide +kernel), jBG_of 446 (by decide +kernel) (by decide +kernel), TX1, 7, rfl⟩
set_option maxRecDepth 100000 in
theorem ml_RX1_42 : Cond.methodLink RX1 42 yX1_zealOf ∈ jBG := jBG_of 491 (by decide +kernel) (by decide +kernel)
set_option maxRecDepth 100000 in
theorem yv_X1_zealOf : jYV md_X1_zealOf 1 1 := ⟨⟨jBG_of 455 (by decide +kernel) (by decide +kernel), jBG_of 92 (by decide +kernel) (by decide +kernel), by decide +kernel, by decide +kernel, by decide +kernel⟩, jBG_of 453 (by decide +kernel) (by decide +kernel), jBG_of 454 (by decide +kernel) (by decide +kernel), TX1, 7, rfl⟩
set_option maxRecDepth 100000 in
theorem ml_RX1_45 : Cond.methodLink RX1 45 yX1_isOf ∈ jBG := jBG_of 492 (by decide +kernel) (by decide +kernel)
set_option maxRecDepth 100000 in
theorem yv_X1_isOf : jYV md_X1_isOf 2 1 := ⟨⟨jBG_of 485 (by decide +kernel) (by decide +kernel), jBG_of 92 (by decide +kernel) (by decide +kernel), by decide +kernel, by decide +kernel, by decide +kernel⟩, jBG_of 483 (by decide +kernel) (by decide +kernel), jBG_of 484 (by decide +kernel) (by decide +kernel), TX1, 7, rfl⟩
set_option maxRecDepth 100000 in
theorem mm_RX1_49 : Cond.methodLink RX1 49 Lib.Math.max.name ∈ jBG := jBG_of 493 (by decide +kernel) (by decide +kernel)
set_option maxRecDepth 100000 in
theorem ml_RX1_55 : Cond.methodLink RX1 55 yX1_lovedBy ∈ jBG := jBG_of 503 (by decide +kernel) (by decide +kernel)
set_option maxRecDepth 100000 in
theorem mn_RX1_58 : Cond.methodLinkNest RX1 58 yX5_isIn "EnemyByLot" ∈ lw_tbl := List.mem_of_getElem? (i := 504) (by decide +kernel)
set_option maxRecDepth 100000 in
theorem ml_RX1_61 : Cond.methodLink RX1 61 yX1_power ∈ jBG := jBG_of 505 (by decide +kernel) (by decide +kernel)
set_option maxRecDepth 100000 in
theorem yv_X1_power : jYV md_X1_power 1 1 := ⟨⟨jBG_of 490 (by decide +kernel) (by decide +kernel), jBG_of 92 (by decide +kernel) (by decide +kernel), by decide +kernel, by decide +kernel, by decide +kernel⟩, jBG_of 488 (by decide +kernel) (by decide +kernel), jBG_of 489 (by decide +kernel) (by decide +kernel), TX1, 7, rfl⟩
set_option maxRecDepth 100000 in
theorem mo_RX2_3 : Cond.methodLink RX2 3 Lib.objectInit ∈ jBG := jBG_of 204 (by decide +kernel) (by decide +kernel)
set_option maxRecDepth 100000 in
theorem mm_RX2_9 : Cond.methodLink RX2 9 Lib.Math.max.name ∈ jBG := jBG_of 205 (by decide +kernel) (by decide +kernel)
set_option maxRecDepth 100000 in
theorem fp_RX2_15_i : jFP RX2 "<init>" 15 2 0 (.array .int) := ⟨RX2, TX2, 2, rfl, by decide, by decide +kernel, Or.inr ⟨rfl, rfl, rfl, jBG_of 208 (by decide +kernel) (by decide +kernel)⟩⟩
set_option maxRecDepth 100000 in
theorem fp_RX2_21 (nm : String) : jFP RX2 nm 21 2 1 .int := ⟨RX2, TX2, 2, rfl, by decide, by decide +kernel, Or.inl ⟨rfl, Or.inl (jBG_of 209 (by decide +kernel) (by decide +kernel))⟩⟩
set_option maxRecDepth 100000 in
theorem fl_RX2_21 : jFL RX2 21 2 1 := ⟨RX2, TX2, 2, rfl, by decide, Or.inl (jBG_of 209 (by decide +kernel) (by decide +kernel))⟩
set_option maxRecDepth 100000 in
theorem fl_RX2_15 : jFL RX2 15 2 0 := ⟨RX2, TX2, 2, rfl, by decide, Or.inl (jBG_of 208 (by decide +kernel) (by decide +kernel))⟩
set_option maxRecDepth 100000 in
theorem mm_RX2_25 : Cond.methodLink RX2 25 Lib.Math.min.name ∈ jBG := jBG_of 299 (by decide +kernel) (by decide +kernel)
set_option maxRecDepth 100000 in
theorem mw_min : Cond.static Lib.Math.min.name ∈ jBG ∧ Cond.initialized "java/lang/Math" ∈ jBG ∧ Cond.code Lib.Math.min.name Lib.Math.min.code 2 (some .int) ∈ jBG := ⟨jBG_of 300 (by decide +kernel) (by decide +kernel), jBG_of 94 (by decide +kernel) (by decide +kernel), jBG_of 301 (by decide +kernel) (by decide +kernel)⟩
set_option maxRecDepth 100000 in
theorem ml_RX2_28 : Cond.methodLink RX2 28 yX2_holds ∈ jBG := jBG_of 306 (by decide +kernel) (by decide +kernel)
set_option maxRecDepth 100000 in
theorem yv_X2_holds : jYV md_X2_holds 1 2 := ⟨⟨jBG_of 309 (by decide +kernel) (by decide +kernel), jBG_of 93 (by decide +kernel) (by decide +kernel), by decide +kernel, by decide +kernel, by decide +kernel⟩, jBG_of 307 (by decide +kernel) (by decide +kernel), jBG_of 308 (by decide +kernel) (by decide +kernel), TX2, 2, rfl⟩
set_option maxRecDepth 100000 in
theorem ml_RX2_32 : Cond.methodLink RX2 32 yX2_set ∈ jBG := jBG_of 302 (by decide +kernel) (by decide +kernel)
set_option maxRecDepth 100000 in
theorem yv_X2_set : jYV md_X2_set 2 2 := ⟨⟨jBG_of 305 (by decide +kernel) (by decide +kernel), jBG_of 93 (by decide +kernel) (by decide +kernel), by decide +kernel, by decide +kernel, by decide +kernel⟩, jBG_of 303 (by decide +kernel) (by decide +kernel), jBG_of 304 (by decide +kernel) (by decide +kernel), TX2, 2, rfl⟩
set_option maxRecDepth 100000 in
theorem ml_RX2_36 : Cond.methodLink RX2 36 yX2_holdsSpan ∈ jBG := jBG_of 352 (by decide +kernel) (by decide +kernel)
set_option maxRecDepth 100000 in
theorem yv_X2_holdsSpan : jYV md_X2_holdsSpan 2 2 := ⟨⟨jBG_of 347 (by decide +kernel) (by decide +kernel), jBG_of 93 (by decide +kernel) (by decide +kernel), by decide +kernel, by decide +kernel, by decide +kernel⟩, jBG_of 345 (by decide +kernel) (by decide +kernel), jBG_of 346 (by decide +kernel) (by decide +kernel), TX2, 2, rfl⟩
set_option maxRecDepth 100000 in
theorem mc_RX2_40 : Cond.methodLink RX2 40 arraycopyName ∈ jBG := jBG_of 353 (by decide +kernel) (by decide +kernel)
set_option maxRecDepth 100000 in
theorem ay_w : Cond.native arraycopyName ∈ jBG ∧ Cond.static arraycopyName ∈ jBG ∧ Cond.initialized "java/lang/System" ∈ jBG := ⟨jBG_of 355 (by decide +kernel) (by decide +kernel), jBG_of 354 (by decide +kernel) (by decide +kernel), jBG_of 96 (by decide +kernel) (by decide +kernel)⟩
set_option maxRecDepth 100000 in
theorem ml_RX2_46 : Cond.methodLink RX2 46 yX2_get ∈ jBG := jBG_of 364 (by decide +kernel) (by decide +kernel)
set_option maxRecDepth 100000 in
theorem yv_X2_get : jYV md_X2_get 1 2 := ⟨⟨jBG_of 326 (by decide +kernel) (by decide +kernel), jBG_of 93 (by decide +kernel) (by decide +kernel), by decide +kernel, by decide +kernel, by decide +kernel⟩, jBG_of 324 (by decide +kernel) (by decide +kernel), jBG_of 325 (by decide +kernel) (by decide +kernel), TX2, 2, rfl⟩
set_option maxRecDepth 100000 in
theorem lc_RX2_50 : Cond.constantLong RX2 50 31 ∈ jBG := jBG_of 823 (by decide +kernel) (by decide +kernel)
set_option maxRecDepth 100000 in
theorem mo_RX3_3 : Cond.methodLink RX3 3 Lib.objectInit ∈ jBG := jBG_of 114 (by decide +kernel) (by decide +kernel)
set_option maxRecDepth 100000 in
theorem fp_RX3_9_i : jFP RX3 "<init>" 9 3 0 (.array .int) := ⟨RX3, TX3, 1, rfl, by decide, by decide +kernel, Or.inr ⟨rfl, rfl, rfl, jBG_of 115 (by decide +kernel) (by decide +kernel)⟩⟩
set_option maxRecDepth 100000 in
theorem fl_RX3_37 : jFL RX3 37 1 5 := ⟨RX1, TX1, 7, rfl, by decide, Or.inr ⟨"EnemyByLot", List.mem_of_getElem? (i := 180) (by decide +kernel)⟩⟩
set_option maxRecDepth 100000 in
theorem ml_RX3_77 : Cond.methodLink RX3 77 yX1_firstVictimOf ∈ jBG := jBG_of 429 (by decide +kernel) (by decide +kernel)
set_option maxRecDepth 100000 in
theorem yv_X1_firstVictimOf : jYV md_X1_firstVictimOf 1 1 := ⟨⟨jBG_of 224 (by decide +kernel) (by decide +kernel), jBG_of 92 (by decide +kernel) (by decide +kernel), by decide +kernel, by decide +kernel, by decide +kernel⟩, jBG_of 222 (by decide +kernel) (by decide +kernel), jBG_of 223 (by decide +kernel) (by decide +kernel), TX1, 7, rfl⟩
set_option maxRecDepth 100000 in
theorem fl_RX3_9 : jFL RX3 9 3 0 := ⟨RX3, TX3, 1, rfl, by decide, Or.inl (jBG_of 115 (by decide +kernel) (by decide +kernel))⟩
set_option maxRecDepth 100000 in
theorem ml_RX3_80 : Cond.methodLink RX3 80 yX1_has ∈ jBG := jBG_of 430 (by decide +kernel) (by decide +kernel)
set_option maxRecDepth 100000 in
theorem mn_RX3_69 : Cond.methodLinkNest RX3 69 yX5_isIn "EnemyByLot" ∈ lw_tbl := List.mem_of_getElem? (i := 402) (by decide +kernel)
set_option maxRecDepth 100000 in
theorem ml_RX3_58 : Cond.methodLink RX3 58 yX2_holds ∈ jBG := jBG_of 397 (by decide +kernel) (by decide +kernel)
set_option maxRecDepth 100000 in
theorem ml_RX3_30 : Cond.methodLink RX3 30 yX2_get ∈ jBG := jBG_of 389 (by decide +kernel) (by decide +kernel)
set_option maxRecDepth 100000 in
theorem fl_RX3_51 : jFL RX3 51 1 6 := ⟨RX1, TX1, 7, rfl, by decide, Or.inr ⟨"EnemyByLot", List.mem_of_getElem? (i := 183) (by decide +kernel)⟩⟩
set_option maxRecDepth 100000 in
theorem ml_RX3_54 : Cond.methodLink RX3 54 yX3_figure ∈ jBG := jBG_of 394 (by decide +kernel) (by decide +kernel)
set_option maxRecDepth 100000 in
theorem ys_X3_figure : jYS md_X3_figure 4 := ⟨⟨jBG_of 396 (by decide +kernel) (by decide +kernel), jBG_of 89 (by decide +kernel) (by decide +kernel), by decide +kernel, by decide +kernel, by decide +kernel⟩, jBG_of 395 (by decide +kernel) (by decide +kernel)⟩
set_option maxRecDepth 100000 in
theorem ml_RX3_66 : Cond.methodLink RX3 66 yX1_lovedBy ∈ jBG := jBG_of 398 (by decide +kernel) (by decide +kernel)
set_option maxRecDepth 100000 in
theorem ml_RX3_73 : Cond.methodLink RX3 73 yX1_pair ∈ jBG := jBG_of 405 (by decide +kernel) (by decide +kernel)
set_option maxRecDepth 100000 in
theorem yv_X1_pair : jYV md_X1_pair 2 1 := ⟨⟨jBG_of 408 (by decide +kernel) (by decide +kernel), jBG_of 92 (by decide +kernel) (by decide +kernel), by decide +kernel, by decide +kernel, by decide +kernel⟩, jBG_of 406 (by decide +kernel) (by decide +kernel), jBG_of 407 (by decide +kernel) (by decide +kernel), TX1, 7, rfl⟩
set_option maxRecDepth 100000 in
theorem gs_RX3_83 : Cond.fieldLinkNest RX3 83 "EnemyByLot" "LETTERS" "[I" "EnemyByLot" ∈ lw_tbl := List.mem_of_getElem? (i := 416) (by decide +kernel)
set_option maxRecDepth 100000 in
theorem ml_RX3_48 : Cond.methodLink RX3 48 yX3_kindBy ∈ jBG := jBG_of 413 (by decide +kernel) (by decide +kernel)
set_option maxRecDepth 100000 in
theorem ys_X3_kindBy : jYS md_X3_kindBy 1 := ⟨⟨jBG_of 415 (by decide +kernel) (by decide +kernel), jBG_of 89 (by decide +kernel) (by decide +kernel), by decide +kernel, by decide +kernel, by decide +kernel⟩, jBG_of 414 (by decide +kernel) (by decide +kernel)⟩
set_option maxRecDepth 100000 in
theorem ml_RX3_62 : Cond.methodLink RX3 62 yX1_join ∈ jBG := jBG_of 418 (by decide +kernel) (by decide +kernel)
set_option maxRecDepth 100000 in
theorem yv_X1_join : jYV md_X1_join 4 1 := ⟨⟨jBG_of 421 (by decide +kernel) (by decide +kernel), jBG_of 92 (by decide +kernel) (by decide +kernel), by decide +kernel, by decide +kernel, by decide +kernel⟩, jBG_of 419 (by decide +kernel) (by decide +kernel), jBG_of 420 (by decide +kernel) (by decide +kernel), TX1, 7, rfl⟩
set_option maxRecDepth 100000 in
theorem ml_RX3_45 : Cond.methodLink RX3 45 yX3_readPerson ∈ jBG := jBG_of 409 (by decide +kernel) (by decide +kernel)
set_option maxRecDepth 100000 in
theorem yv_X3_readPerson : jYV md_X3_readPerson 3 3 := ⟨⟨jBG_of 412 (by decide +kernel) (by decide +kernel), jBG_of 89 (by decide +kernel) (by decide +kernel), by decide +kernel, by decide +kernel, by decide +kernel⟩, jBG_of 411 (by decide +kernel) (by decide +kernel), jBG_of 5 (by decide +kernel) (by decide +kernel), TX3, 1, rfl⟩
set_option maxRecDepth 100000 in
theorem ml_RX3_42 : Cond.methodLink RX3 42 yX3_readLove ∈ jBG := jBG_of 390 (by decide +kernel) (by decide +kernel)
set_option maxRecDepth 100000 in
theorem yv_X3_readLove : jYV md_X3_readLove 3 3 := ⟨⟨jBG_of 393 (by decide +kernel) (by decide +kernel), jBG_of 89 (by decide +kernel) (by decide +kernel), by decide +kernel, by decide +kernel, by decide +kernel⟩, jBG_of 392 (by decide +kernel) (by decide +kernel), jBG_of 4 (by decide +kernel) (by decide +kernel), TX3, 1, rfl⟩
set_option maxRecDepth 100000 in
theorem ml_RX3_15 : Cond.methodLink RX3 15 yX1_clear ∈ jBG := jBG_of 381 (by decide +kernel) (by decide +kernel)
set_option maxRecDepth 100000 in
theorem yv_X1_clear : jYV md_X1_clear 0 1 := ⟨⟨jBG_of 384 (by decide +kernel) (by decide +kernel), jBG_of 92 (by decide +kernel) (by decide +kernel), by decide +kernel, by decide +kernel, by decide +kernel⟩, jBG_of 382 (by decide +kernel) (by decide +kernel), jBG_of 383 (by decide +kernel) (by decide +kernel), TX1, 7, rfl⟩
set_option maxRecDepth 100000 in
theorem fl_RX3_20 : jFL RX3 20 2 1 := ⟨RX2, TX2, 2, rfl, by decide, Or.inr ⟨"EnemyByLot", List.mem_of_getElem? (i := 210) (by decide +kernel)⟩⟩
set_option maxRecDepth 100000 in
theorem ml_RX3_26 : Cond.methodLink RX3 26 yX3_readItem ∈ jBG := jBG_of 385 (by decide +kernel) (by decide +kernel)
set_option maxRecDepth 100000 in
theorem yv_X3_readItem : jYV md_X3_readItem 3 3 := ⟨⟨jBG_of 388 (by decide +kernel) (by decide +kernel), jBG_of 89 (by decide +kernel) (by decide +kernel), by decide +kernel, by decide +kernel, by decide +kernel⟩, jBG_of 387 (by decide +kernel) (by decide +kernel), jBG_of 3 (by decide +kernel) (by decide +kernel), TX3, 1, rfl⟩
set_option maxRecDepth 100000 in
theorem ml_RX3_34 : Cond.methodLink RX3 34 yX3_widthOf ∈ jBG := jBG_of 422 (by decide +kernel) (by decide +kernel)
set_option maxRecDepth 100000 in
theorem ys_X3_widthOf : jYS md_X3_widthOf 1 := ⟨⟨jBG_of 424 (by decide +kernel) (by decide +kernel), jBG_of 89 (by decide +kernel) (by decide +kernel), by decide +kernel, by decide +kernel, by decide +kernel⟩, jBG_of 423 (by decide +kernel) (by decide +kernel)⟩
set_option maxRecDepth 100000 in
theorem ml_RX3_38 : Cond.methodLink RX3 38 yX3_faultOfFoes ∈ jBG := jBG_of 425 (by decide +kernel) (by decide +kernel)
set_option maxRecDepth 100000 in
theorem yv_X3_faultOfFoes : jYV md_X3_faultOfFoes 1 3 := ⟨⟨jBG_of 428 (by decide +kernel) (by decide +kernel), jBG_of 89 (by decide +kernel) (by decide +kernel), by decide +kernel, by decide +kernel, by decide +kernel⟩, jBG_of 427 (by decide +kernel) (by decide +kernel), jBG_of 6 (by decide +kernel) (by decide +kernel), TX3, 1, rfl⟩
set_option maxRecDepth 100000 in
theorem mo_RX4_3 : Cond.methodLink RX4 3 Lib.objectInit ∈ jBG := jBG_of 125 (by decide +kernel) (by decide +kernel)
set_option maxRecDepth 100000 in
theorem fp_RX4_9_i : jFP RX4 "<init>" 9 4 0 (.array .int) := ⟨RX4, TX4, 5, rfl, by decide, by decide +kernel, Or.inr ⟨rfl, rfl, rfl, jBG_of 126 (by decide +kernel) (by decide +kernel)⟩⟩
set_option maxRecDepth 100000 in
theorem fp_RX4_15_i : jFP RX4 "<init>" 15 4 1 (.array .int) := ⟨RX4, TX4, 5, rfl, by decide, by decide +kernel, Or.inr ⟨rfl, rfl, rfl, jBG_of 127 (by decide +kernel) (by decide +kernel)⟩⟩
set_option maxRecDepth 100000 in
theorem fp_RX4_18_i : jFP RX4 "<init>" 18 4 2 (.array .int) := ⟨RX4, TX4, 5, rfl, by decide, by decide +kernel, Or.inr ⟨rfl, rfl, rfl, jBG_of 128 (by decide +kernel) (by decide +kernel)⟩⟩
set_option maxRecDepth 100000 in
theorem fl_RX4_21 : jFL RX4 21 4 3 := ⟨RX4, TX4, 5, rfl, by decide, Or.inl (jBG_of 129 (by decide +kernel) (by decide +kernel))⟩
set_option maxRecDepth 100000 in
theorem fl_RX4_15 : jFL RX4 15 4 1 := ⟨RX4, TX4, 5, rfl, by decide, Or.inl (jBG_of 127 (by decide +kernel) (by decide +kernel))⟩
set_option maxRecDepth 100000 in
theorem ml_RX4_44 : Cond.methodLink RX4 44 yX4_slot ∈ jBG := jBG_of 233 (by decide +kernel) (by decide +kernel)
set_option maxRecDepth 100000 in
theorem yv_X4_slot : jYV md_X4_slot 1 4 := ⟨⟨jBG_of 236 (by decide +kernel) (by decide +kernel), jBG_of 90 (by decide +kernel) (by decide +kernel), by decide +kernel, by decide +kernel, by decide +kernel⟩, jBG_of 235 (by decide +kernel) (by decide +kernel), jBG_of 0 (by decide +kernel) (by decide +kernel), TX4, 5, rfl⟩
set_option maxRecDepth 100000 in
theorem fl_RX4_9 : jFL RX4 9 4 0 := ⟨RX4, TX4, 5, rfl, by decide, Or.inl (jBG_of 126 (by decide +kernel) (by decide +kernel))⟩
set_option maxRecDepth 100000 in
theorem fp_RX4_21 (nm : String) : jFP RX4 nm 21 4 3 .int := ⟨RX4, TX4, 5, rfl, by decide, by decide +kernel, Or.inl ⟨rfl, Or.inl (jBG_of 129 (by decide +kernel) (by decide +kernel))⟩⟩
set_option maxRecDepth 100000 in
theorem ml_RX4_25 : Cond.methodLink RX4 25 yX1_firstVictimOf ∈ jBG := jBG_of 221 (by decide +kernel) (by decide +kernel)
set_option maxRecDepth 100000 in
theorem ml_RX4_31 : Cond.methodLink RX4 31 yX4_setVictim ∈ jBG := jBG_of 229 (by decide +kernel) (by decide +kernel)
set_option maxRecDepth 100000 in
theorem yv_X4_setVictim : jYV md_X4_setVictim 2 4 := ⟨⟨jBG_of 232 (by decide +kernel) (by decide +kernel), jBG_of 90 (by decide +kernel) (by decide +kernel), by decide +kernel, by decide +kernel, by decide +kernel⟩, jBG_of 230 (by decide +kernel) (by decide +kernel), jBG_of 231 (by decide +kernel) (by decide +kernel), TX4, 5, rfl⟩
set_option maxRecDepth 100000 in
theorem ml_RX4_35 : Cond.methodLink RX4 35 yX4_setDeeds ∈ jBG := jBG_of 237 (by decide +kernel) (by decide +kernel)
set_option maxRecDepth 100000 in
theorem yv_X4_setDeeds : jYV md_X4_setDeeds 2 4 := ⟨⟨jBG_of 240 (by decide +kernel) (by decide +kernel), jBG_of 90 (by decide +kernel) (by decide +kernel), by decide +kernel, by decide +kernel, by decide +kernel⟩, jBG_of 238 (by decide +kernel) (by decide +kernel), jBG_of 239 (by decide +kernel) (by decide +kernel), TX4, 5, rfl⟩
set_option maxRecDepth 100000 in
theorem fl_RX4_18 : jFL RX4 18 4 2 := ⟨RX4, TX4, 5, rfl, by decide, Or.inl (jBG_of 128 (by decide +kernel) (by decide +kernel))⟩
set_option maxRecDepth 100000 in
theorem mc_RX4_38 : Cond.methodLink RX4 38 arraycopyName ∈ jBG := jBG_of 552 (by decide +kernel) (by decide +kernel)
end
section
set_option maxRecDepth 100000 in
theorem ml_RX4_47 : Cond.methodLink RX4 47 yX4_victimOf ∈ jBG := jBG_of 464 (by decide +kernel) (by decide +kernel)
set_option maxRecDepth 100000 in
theorem yv_X4_victimOf : jYV md_X4_victimOf 1 4 := ⟨⟨jBG_of 459 (by decide +kernel) (by decide +kernel), jBG_of 90 (by decide +kernel) (by decide +kernel), by decide +kernel, by decide +kernel, by decide +kernel⟩, jBG_of 457 (by decide +kernel) (by decide +kernel), jBG_of 458 (by decide +kernel) (by decide +kernel), TX4, 5, rfl⟩
set_option maxRecDepth 100000 in
theorem mo_RX5_3 : Cond.methodLink RX5 3 Lib.objectInit ∈ jBG := jBG_of 104 (by decide +kernel) (by decide +kernel)
set_option maxRecDepth 100000 in
theorem ce_RX5_9 : Cond.classLink RX5 9 (jEl 0) ∈ jBG := jBG_of 107 (by decide +kernel) (by decide +kernel)
set_option maxRecDepth 100000 in
theorem fp_RX5_11_i : jFP RX5 "<init>" 11 5 0 (.array (.object "EnemyByLot$Line")) := ⟨RX5, TX5, 14, rfl, by decide, by decide +kernel, Or.inr ⟨rfl, rfl, rfl, jBG_of 241 (by decide +kernel) (by decide +kernel)⟩⟩
set_option maxRecDepth 100000 in
theorem fp_RX5_15_i : jFP RX5 "<init>" 15 5 1 (.array (.object "EnemyByLot$Line")) := ⟨RX5, TX5, 14, rfl, by decide, by decide +kernel, Or.inr ⟨rfl, rfl, rfl, jBG_of 242 (by decide +kernel) (by decide +kernel)⟩⟩
set_option maxRecDepth 100000 in
theorem cl_RX5_18 : Cond.classLink RX5 18 RX3 ∈ jBG := jBG_of 109 (by decide +kernel) (by decide +kernel)
set_option maxRecDepth 100000 in
theorem it_3 : Cond.instantiable RX3 1 ∈ jBG := jBG_of 110 (by decide +kernel) (by decide +kernel)
set_option maxRecDepth 100000 in
theorem in_3 : Cond.initialized RX3 ∈ jBG := jBG_of 89 (by decide +kernel) (by decide +kernel)
set_option maxRecDepth 100000 in
theorem df_3 : ∀ j, j < 1 → ∀ g : GX, defaultValue (tyX3 j) = vp_V (([.inr (.inr (.inl none))] : List AV).map (jcv g)) j := by
  intro j hj g
  match j, hj with
  | 0, _ => rfl
  | j + 1, hj => exact absurd hj (by omega)
set_option maxRecDepth 100000 in
theorem mn_RX5_20 : Cond.methodLinkNest RX5 20 yX3_init "EnemyByLot" ∈ lw_tbl := List.mem_of_getElem? (i := 111) (by decide +kernel)
set_option maxRecDepth 100000 in
theorem yi_X3_init : jYI md_X3_init 0 := ⟨⟨jBG_of 113 (by decide +kernel) (by decide +kernel), jBG_of 89 (by decide +kernel) (by decide +kernel), by decide +kernel, by decide +kernel, by decide +kernel⟩, jBG_of 112 (by decide +kernel) (by decide +kernel), rfl⟩
set_option maxRecDepth 100000 in
theorem fp_RX5_21_i : jFP RX5 "<init>" 21 5 2 (.object "EnemyByLot$Reader") := ⟨RX5, TX5, 14, rfl, by decide, by decide +kernel, Or.inr ⟨rfl, rfl, rfl, jBG_of 243 (by decide +kernel) (by decide +kernel)⟩⟩
set_option maxRecDepth 100000 in
theorem cl_RX5_25 : Cond.classLink RX5 25 RX4 ∈ jBG := jBG_of 120 (by decide +kernel) (by decide +kernel)
set_option maxRecDepth 100000 in
theorem it_4 : Cond.instantiable RX4 5 ∈ jBG := jBG_of 121 (by decide +kernel) (by decide +kernel)
set_option maxRecDepth 100000 in
theorem in_4 : Cond.initialized RX4 ∈ jBG := jBG_of 90 (by decide +kernel) (by decide +kernel)
set_option maxRecDepth 100000 in
theorem df_4 : ∀ j, j < 5 → ∀ g : GX, defaultValue (tyX4 j) = vp_V (([.inr (.inr (.inl none)), .inr (.inr (.inl none)), .inr (.inr (.inl none)), .inl 0, .inl 0] : List AV).map (jcv g)) j := by
  intro j hj g
  match j, hj with
  | 0, _ => rfl
  | 1, _ => rfl
  | 2, _ => rfl
  | 3, _ => rfl
  | 4, _ => rfl
  | j + 5, hj => exact absurd hj (by omega)
set_option maxRecDepth 100000 in
theorem mn_RX5_27 : Cond.methodLinkNest RX5 27 yX4_init "EnemyByLot" ∈ lw_tbl := List.mem_of_getElem? (i := 122) (by decide +kernel)
set_option maxRecDepth 100000 in
theorem yi_X4_init : jYI md_X4_init 0 := ⟨⟨jBG_of 124 (by decide +kernel) (by decide +kernel), jBG_of 90 (by decide +kernel) (by decide +kernel), by decide +kernel, by decide +kernel, by decide +kernel⟩, jBG_of 123 (by decide +kernel) (by decide +kernel), rfl⟩
set_option maxRecDepth 100000 in
theorem fp_RX5_28_i : jFP RX5 "<init>" 28 5 3 (.object "EnemyByLot$Town") := ⟨RX5, TX5, 14, rfl, by decide, by decide +kernel, Or.inr ⟨rfl, rfl, rfl, jBG_of 244 (by decide +kernel) (by decide +kernel)⟩⟩
set_option maxRecDepth 100000 in
theorem ce_RX5_25 : Cond.classLink RX5 25 (jEl 1) ∈ jBG := jBG_of 120 (by decide +kernel) (by decide +kernel)
set_option maxRecDepth 100000 in
theorem fp_RX5_32_i : jFP RX5 "<init>" 32 5 4 (.array (.object "EnemyByLot$Town")) := ⟨RX5, TX5, 14, rfl, by decide, by decide +kernel, Or.inr ⟨rfl, rfl, rfl, jBG_of 245 (by decide +kernel) (by decide +kernel)⟩⟩
set_option maxRecDepth 100000 in
theorem cl_RX5_36 : Cond.classLink RX5 36 RX0 ∈ jBG := jBG_of 144 (by decide +kernel) (by decide +kernel)
set_option maxRecDepth 100000 in
theorem it_0 : Cond.instantiable RX0 5 ∈ jBG := jBG_of 145 (by decide +kernel) (by decide +kernel)
set_option maxRecDepth 100000 in
theorem in_0 : Cond.initialized RX0 ∈ jBG := jBG_of 91 (by decide +kernel) (by decide +kernel)
set_option maxRecDepth 100000 in
theorem df_0 : ∀ j, j < 5 → ∀ g : GX, defaultValue (tyX0 j) = vp_V (([.inr (.inr (.inl none)), .inr (.inr (.inl none)), .inr (.inr (.inl none)), .inl 0, .inl 0] : List AV).map (jcv g)) j := by
  intro j hj g
  match j, hj with
  | 0, _ => rfl
  | 1, _ => rfl
  | 2, _ => rfl
  | 3, _ => rfl
  | 4, _ => rfl
  | j + 5, hj => exact absurd hj (by omega)
set_option maxRecDepth 100000 in
theorem mn_RX5_38 : Cond.methodLinkNest RX5 38 yX0_init "EnemyByLot" ∈ lw_tbl := List.mem_of_getElem? (i := 146) (by decide +kernel)
set_option maxRecDepth 100000 in
theorem yi_X0_init : jYI md_X0_init 0 := ⟨⟨jBG_of 148 (by decide +kernel) (by decide +kernel), jBG_of 91 (by decide +kernel) (by decide +kernel), by decide +kernel, by decide +kernel, by decide +kernel⟩, jBG_of 147 (by decide +kernel) (by decide +kernel), rfl⟩
set_option maxRecDepth 100000 in
theorem fp_RX5_39_i : jFP RX5 "<init>" 39 5 5 (.object "EnemyByLot$Atlas") := ⟨RX5, TX5, 14, rfl, by decide, by decide +kernel, Or.inr ⟨rfl, rfl, rfl, jBG_of 246 (by decide +kernel) (by decide +kernel)⟩⟩
set_option maxRecDepth 100000 in
theorem fp_RX5_43_i : jFP RX5 "<init>" 43 5 6 (.array .int) := ⟨RX5, TX5, 14, rfl, by decide, by decide +kernel, Or.inr ⟨rfl, rfl, rfl, jBG_of 247 (by decide +kernel) (by decide +kernel)⟩⟩
set_option maxRecDepth 100000 in
theorem fp_RX5_47_i : jFP RX5 "<init>" 47 5 7 (.array .int) := ⟨RX5, TX5, 14, rfl, by decide, by decide +kernel, Or.inr ⟨rfl, rfl, rfl, jBG_of 248 (by decide +kernel) (by decide +kernel)⟩⟩
set_option maxRecDepth 100000 in
theorem cl_RX5_50 : Cond.classLink RX5 50 RX1 ∈ jBG := jBG_of 167 (by decide +kernel) (by decide +kernel)
set_option maxRecDepth 100000 in
theorem it_1 : Cond.instantiable RX1 7 ∈ jBG := jBG_of 168 (by decide +kernel) (by decide +kernel)
set_option maxRecDepth 100000 in
theorem in_1 : Cond.initialized RX1 ∈ jBG := jBG_of 92 (by decide +kernel) (by decide +kernel)
set_option maxRecDepth 100000 in
theorem df_1 : ∀ j, j < 7 → ∀ g : GX, defaultValue (tyX1 j) = vp_V (([.inr (.inr (.inl none)), .inr (.inr (.inl none)), .inr (.inr (.inl none)), .inr (.inr (.inl none)), .inr (.inr (.inl none)), .inl 0, .inl 0] : List AV).map (jcv g)) j := by
  intro j hj g
  match j, hj with
  | 0, _ => rfl
  | 1, _ => rfl
  | 2, _ => rfl
  | 3, _ => rfl
  | 4, _ => rfl
  | 5, _ => rfl
  | 6, _ => rfl
  | j + 7, hj => exact absurd hj (by omega)
set_option maxRecDepth 100000 in
theorem mn_RX5_52 : Cond.methodLinkNest RX5 52 yX1_init "EnemyByLot" ∈ lw_tbl := List.mem_of_getElem? (i := 169) (by decide +kernel)
set_option maxRecDepth 100000 in
theorem yi_X1_init : jYI md_X1_init 0 := ⟨⟨jBG_of 171 (by decide +kernel) (by decide +kernel), jBG_of 92 (by decide +kernel) (by decide +kernel), by decide +kernel, by decide +kernel, by decide +kernel⟩, jBG_of 170 (by decide +kernel) (by decide +kernel), rfl⟩
set_option maxRecDepth 100000 in
theorem fp_RX5_53 (nm : String) : jFP RX5 nm 53 5 8 (.object "EnemyByLot$Folk") := ⟨RX5, TX5, 14, rfl, by decide, by decide +kernel, Or.inl ⟨rfl, Or.inl (jBG_of 249 (by decide +kernel) (by decide +kernel))⟩⟩
set_option maxRecDepth 100000 in
theorem fp_RX5_57 (nm : String) : jFP RX5 nm 57 5 9 (.object "EnemyByLot$Folk") := ⟨RX5, TX5, 14, rfl, by decide, by decide +kernel, Or.inl ⟨rfl, Or.inl (jBG_of 250 (by decide +kernel) (by decide +kernel))⟩⟩
set_option maxRecDepth 100000 in
theorem fl_RX5_11 : jFL RX5 11 5 0 := ⟨RX5, TX5, 14, rfl, by decide, Or.inl (jBG_of 241 (by decide +kernel) (by decide +kernel))⟩
set_option maxRecDepth 100000 in
theorem cl_RX5_9 : Cond.classLink RX5 9 RX2 ∈ jBG := jBG_of 107 (by decide +kernel) (by decide +kernel)
set_option maxRecDepth 100000 in
theorem it_2 : Cond.instantiable RX2 2 ∈ jBG := jBG_of 200 (by decide +kernel) (by decide +kernel)
set_option maxRecDepth 100000 in
theorem in_2 : Cond.initialized RX2 ∈ jBG := jBG_of 93 (by decide +kernel) (by decide +kernel)
set_option maxRecDepth 100000 in
theorem df_2 : ∀ j, j < 2 → ∀ g : GX, defaultValue (tyX2 j) = vp_V (([.inr (.inr (.inl none)), .inl 0] : List AV).map (jcv g)) j := by
  intro j hj g
  match j, hj with
  | 0, _ => rfl
  | 1, _ => rfl
  | j + 2, hj => exact absurd hj (by omega)
set_option maxRecDepth 100000 in
theorem ml_RX5_60 : Cond.methodLink RX5 60 yX2_init ∈ jBG := jBG_of 201 (by decide +kernel) (by decide +kernel)
set_option maxRecDepth 100000 in
theorem yi_X2_init : jYI md_X2_init 1 := ⟨⟨jBG_of 203 (by decide +kernel) (by decide +kernel), jBG_of 93 (by decide +kernel) (by decide +kernel), by decide +kernel, by decide +kernel, by decide +kernel⟩, jBG_of 202 (by decide +kernel) (by decide +kernel), rfl⟩
set_option maxRecDepth 100000 in
theorem fl_RX5_15 : jFL RX5 15 5 1 := ⟨RX5, TX5, 14, rfl, by decide, Or.inl (jBG_of 242 (by decide +kernel) (by decide +kernel))⟩
set_option maxRecDepth 100000 in
theorem fl_RX5_32 : jFL RX5 32 5 4 := ⟨RX5, TX5, 14, rfl, by decide, Or.inl (jBG_of 245 (by decide +kernel) (by decide +kernel))⟩
set_option maxRecDepth 100000 in
theorem fl_RX5_28 : jFL RX5 28 5 3 := ⟨RX5, TX5, 14, rfl, by decide, Or.inl (jBG_of 244 (by decide +kernel) (by decide +kernel))⟩
set_option maxRecDepth 100000 in
theorem fl_RX5_53 : jFL RX5 53 5 8 := ⟨RX5, TX5, 14, rfl, by decide, Or.inl (jBG_of 249 (by decide +kernel) (by decide +kernel))⟩
set_option maxRecDepth 100000 in
theorem ml_RX5_63 : Cond.methodLink RX5 63 yX4_begin ∈ jBG := jBG_of 217 (by decide +kernel) (by decide +kernel)
set_option maxRecDepth 100000 in
theorem yv_X4_begin : jYV md_X4_begin 1 4 := ⟨⟨jBG_of 220 (by decide +kernel) (by decide +kernel), jBG_of 90 (by decide +kernel) (by decide +kernel), by decide +kernel, by decide +kernel, by decide +kernel⟩, jBG_of 218 (by decide +kernel) (by decide +kernel), jBG_of 219 (by decide +kernel) (by decide +kernel), TX4, 5, rfl⟩
set_option maxRecDepth 100000 in
theorem fp_RX5_67 (nm : String) : jFP RX5 nm 67 5 13 .long := ⟨RX5, TX5, 14, rfl, by decide, by decide +kernel, Or.inl ⟨rfl, Or.inl (jBG_of 254 (by decide +kernel) (by decide +kernel))⟩⟩
set_option maxRecDepth 100000 in
theorem fp_RX5_301 (nm : String) : jFP RX5 nm 301 5 10 .int := ⟨RX5, TX5, 14, rfl, by decide, by decide +kernel, Or.inl ⟨rfl, Or.inl (jBG_of 251 (by decide +kernel) (by decide +kernel))⟩⟩
set_option maxRecDepth 100000 in
theorem fl_RX5_47 : jFL RX5 47 5 7 := ⟨RX5, TX5, 14, rfl, by decide, Or.inl (jBG_of 248 (by decide +kernel) (by decide +kernel))⟩
set_option maxRecDepth 100000 in
theorem ml_RX5_71 : Cond.methodLink RX5 71 yX5_lineAt ∈ jBG := jBG_of 288 (by decide +kernel) (by decide +kernel)
set_option maxRecDepth 100000 in
theorem ys_X5_lineAt : jYS md_X5_lineAt 2 := ⟨⟨jBG_of 290 (by decide +kernel) (by decide +kernel), jBG_of 88 (by decide +kernel) (by decide +kernel), by decide +kernel, by decide +kernel, by decide +kernel⟩, jBG_of 289 (by decide +kernel) (by decide +kernel)⟩
set_option maxRecDepth 100000 in
theorem ml_RX5_79 : Cond.methodLink RX5 79 yX2_renew ∈ jBG := jBG_of 295 (by decide +kernel) (by decide +kernel)
set_option maxRecDepth 100000 in
theorem yv_X2_renew : jYV md_X2_renew 2 2 := ⟨⟨jBG_of 298 (by decide +kernel) (by decide +kernel), jBG_of 93 (by decide +kernel) (by decide +kernel), by decide +kernel, by decide +kernel, by decide +kernel⟩, jBG_of 296 (by decide +kernel) (by decide +kernel), jBG_of 297 (by decide +kernel) (by decide +kernel), TX2, 2, rfl⟩
set_option maxRecDepth 100000 in
theorem ml_RX5_75 : Cond.methodLink RX5 75 yX5_find ∈ jBG := jBG_of 291 (by decide +kernel) (by decide +kernel)
set_option maxRecDepth 100000 in
theorem yv_X5_find : jYV md_X5_find 1 5 := ⟨⟨jBG_of 294 (by decide +kernel) (by decide +kernel), jBG_of 88 (by decide +kernel) (by decide +kernel), by decide +kernel, by decide +kernel, by decide +kernel⟩, jBG_of 293 (by decide +kernel) (by decide +kernel), jBG_of 1 (by decide +kernel) (by decide +kernel), TX5, 14, rfl⟩
set_option maxRecDepth 100000 in
theorem ml_RX5_97 : Cond.methodLink RX5 97 yX2_isMissing ∈ jBG := jBG_of 318 (by decide +kernel) (by decide +kernel)
set_option maxRecDepth 100000 in
theorem yv_X2_isMissing : jYV md_X2_isMissing 0 2 := ⟨⟨jBG_of 321 (by decide +kernel) (by decide +kernel), jBG_of 93 (by decide +kernel) (by decide +kernel), by decide +kernel, by decide +kernel, by decide +kernel⟩, jBG_of 319 (by decide +kernel) (by decide +kernel), jBG_of 320 (by decide +kernel) (by decide +kernel), TX2, 2, rfl⟩
set_option maxRecDepth 100000 in
theorem ml_RX5_315 : Cond.methodLink RX5 315 yX2_holds ∈ jBG := jBG_of 322 (by decide +kernel) (by decide +kernel)
set_option maxRecDepth 100000 in
theorem ml_RX5_83 : Cond.methodLink RX5 83 yX5_refusePlace ∈ jBG := jBG_of 314 (by decide +kernel) (by decide +kernel)
set_option maxRecDepth 100000 in
theorem yv_X5_refusePlace : jYV md_X5_refusePlace 2 5 := ⟨⟨jBG_of 317 (by decide +kernel) (by decide +kernel), jBG_of 88 (by decide +kernel) (by decide +kernel), by decide +kernel, by decide +kernel, by decide +kernel⟩, jBG_of 316 (by decide +kernel) (by decide +kernel), jBG_of 2 (by decide +kernel) (by decide +kernel), TX5, 14, rfl⟩
set_option maxRecDepth 100000 in
theorem ml_RX5_87 : Cond.methodLink RX5 87 yX2_get ∈ jBG := jBG_of 323 (by decide +kernel) (by decide +kernel)
set_option maxRecDepth 100000 in
theorem fp_RX5_90 (nm : String) : jFP RX5 nm 90 5 11 .int := ⟨RX5, TX5, 14, rfl, by decide, by decide +kernel, Or.inl ⟨rfl, Or.inl (jBG_of 252 (by decide +kernel) (by decide +kernel))⟩⟩
set_option maxRecDepth 100000 in
theorem ml_RX5_94 : Cond.methodLink RX5 94 yX2_set ∈ jBG := jBG_of 327 (by decide +kernel) (by decide +kernel)
set_option maxRecDepth 100000 in
theorem ml_RX5_101 : Cond.methodLink RX5 101 yX2_discard ∈ jBG := jBG_of 336 (by decide +kernel) (by decide +kernel)
set_option maxRecDepth 100000 in
theorem yv_X2_discard : jYV md_X2_discard 0 2 := ⟨⟨jBG_of 339 (by decide +kernel) (by decide +kernel), jBG_of 93 (by decide +kernel) (by decide +kernel), by decide +kernel, by decide +kernel, by decide +kernel⟩, jBG_of 337 (by decide +kernel) (by decide +kernel), jBG_of 338 (by decide +kernel) (by decide +kernel), TX2, 2, rfl⟩
set_option maxRecDepth 100000 in
theorem ml_RX5_104 : Cond.methodLink RX5 104 yX2_holdsSpan ∈ jBG := jBG_of 344 (by decide +kernel) (by decide +kernel)
set_option maxRecDepth 100000 in
theorem ml_RX5_108 : Cond.methodLink RX5 108 yX2_take ∈ jBG := jBG_of 348 (by decide +kernel) (by decide +kernel)
set_option maxRecDepth 100000 in
theorem yv_X2_take : jYV md_X2_take 4 2 := ⟨⟨jBG_of 351 (by decide +kernel) (by decide +kernel), jBG_of 93 (by decide +kernel) (by decide +kernel), by decide +kernel, by decide +kernel, by decide +kernel⟩, jBG_of 349 (by decide +kernel) (by decide +kernel), jBG_of 350 (by decide +kernel) (by decide +kernel), TX2, 2, rfl⟩
set_option maxRecDepth 100000 in
theorem fl_RX5_112 : jFL RX5 112 2 1 := ⟨RX2, TX2, 2, rfl, by decide, Or.inr ⟨"EnemyByLot", List.mem_of_getElem? (i := 211) (by decide +kernel)⟩⟩
set_option maxRecDepth 100000 in
theorem ml_RX5_115 : Cond.methodLink RX5 115 yX2_meanCut ∈ jBG := jBG_of 360 (by decide +kernel) (by decide +kernel)
set_option maxRecDepth 100000 in
theorem yv_X2_meanCut : jYV md_X2_meanCut 0 2 := ⟨⟨jBG_of 363 (by decide +kernel) (by decide +kernel), jBG_of 93 (by decide +kernel) (by decide +kernel), by decide +kernel, by decide +kernel, by decide +kernel⟩, jBG_of 361 (by decide +kernel) (by decide +kernel), jBG_of 362 (by decide +kernel) (by decide +kernel), TX2, 2, rfl⟩
set_option maxRecDepth 100000 in
theorem fl_RX5_21 : jFL RX5 21 5 2 := ⟨RX5, TX5, 14, rfl, by decide, Or.inl (jBG_of 243 (by decide +kernel) (by decide +kernel))⟩
set_option maxRecDepth 100000 in
theorem fl_RX5_57 : jFL RX5 57 5 9 := ⟨RX5, TX5, 14, rfl, by decide, Or.inl (jBG_of 250 (by decide +kernel) (by decide +kernel))⟩
set_option maxRecDepth 100000 in
theorem ml_RX5_119 : Cond.methodLink RX5 119 yX3_read ∈ jBG := jBG_of 377 (by decide +kernel) (by decide +kernel)
set_option maxRecDepth 100000 in
theorem yv_X3_read : jYV md_X3_read 2 3 := ⟨⟨jBG_of 380 (by decide +kernel) (by decide +kernel), jBG_of 89 (by decide +kernel) (by decide +kernel), by decide +kernel, by decide +kernel, by decide +kernel⟩, jBG_of 378 (by decide +kernel) (by decide +kernel), jBG_of 379 (by decide +kernel) (by decide +kernel), TX3, 1, rfl⟩
set_option maxRecDepth 100000 in
theorem fp_RX5_123 (nm : String) : jFP RX5 nm 123 4 4 .boolean := ⟨RX4, TX4, 5, rfl, by decide, by decide +kernel, Or.inl ⟨rfl, Or.inr ⟨"EnemyByLot", List.mem_of_getElem? (i := 131) (by decide +kernel)⟩⟩⟩
set_option maxRecDepth 100000 in
theorem fl_RX5_127 : jFL RX5 127 1 5 := ⟨RX1, TX1, 7, rfl, by decide, Or.inr ⟨"EnemyByLot", List.mem_of_getElem? (i := 181) (by decide +kernel)⟩⟩
set_option maxRecDepth 100000 in
theorem ml_RX5_330 : Cond.methodLink RX5 330 yX4_deedsOf ∈ jBG := jBG_of 465 (by decide +kernel) (by decide +kernel)
set_option maxRecDepth 100000 in
theorem yv_X4_deedsOf : jYV md_X4_deedsOf 1 4 := ⟨⟨jBG_of 468 (by decide +kernel) (by decide +kernel), jBG_of 90 (by decide +kernel) (by decide +kernel), by decide +kernel, by decide +kernel, by decide +kernel⟩, jBG_of 466 (by decide +kernel) (by decide +kernel), jBG_of 467 (by decide +kernel) (by decide +kernel), TX4, 5, rfl⟩
set_option maxRecDepth 100000 in
theorem ml_RX5_324 : Cond.methodLink RX5 324 yX1_aimOf ∈ jBG := jBG_of 448 (by decide +kernel) (by decide +kernel)
set_option maxRecDepth 100000 in
theorem yv_X1_aimOf : jYV md_X1_aimOf 1 1 := ⟨⟨jBG_of 451 (by decide +kernel) (by decide +kernel), jBG_of 92 (by decide +kernel) (by decide +kernel), by decide +kernel, by decide +kernel, by decide +kernel⟩, jBG_of 449 (by decide +kernel) (by decide +kernel), jBG_of 450 (by decide +kernel) (by decide +kernel), TX1, 7, rfl⟩
set_option maxRecDepth 100000 in
theorem sw_X5_trait_1 : decode md_X5_trait.2.1 1 = .ok (.tableswitch 124 0 7 #[47, 56, 65, 74, 83, 92, 101, 110], 47) := by decide +kernel
set_option maxRecDepth 100000 in
theorem ml_RX5_321 : Cond.methodLink RX5 321 yX1_kindOf ∈ jBG := jBG_of 444 (by decide +kernel) (by decide +kernel)
set_option maxRecDepth 100000 in
theorem ml_RX5_327 : Cond.methodLink RX5 327 yX1_zealOf ∈ jBG := jBG_of 452 (by decide +kernel) (by decide +kernel)
set_option maxRecDepth 100000 in
theorem ml_RX5_178 : Cond.methodLink RX5 178 yX4_victimOf ∈ jBG := jBG_of 456 (by decide +kernel) (by decide +kernel)
set_option maxRecDepth 100000 in
theorem ml_RX5_203 : Cond.methodLink RX5 203 yX4_foeOf ∈ jBG := jBG_of 460 (by decide +kernel) (by decide +kernel)
set_option maxRecDepth 100000 in
theorem yv_X4_foeOf : jYV md_X4_foeOf 1 4 := ⟨⟨jBG_of 463 (by decide +kernel) (by decide +kernel), jBG_of 90 (by decide +kernel) (by decide +kernel), by decide +kernel, by decide +kernel, by decide +kernel⟩, jBG_of 461 (by decide +kernel) (by decide +kernel), jBG_of 462 (by decide +kernel) (by decide +kernel), TX4, 5, rfl⟩
set_option maxRecDepth 100000 in
theorem ml_RX5_333 : Cond.methodLink RX5 333 yX4_finesOf ∈ jBG := jBG_of 469 (by decide +kernel) (by decide +kernel)
set_option maxRecDepth 100000 in
theorem yv_X4_finesOf : jYV md_X4_finesOf 1 4 := ⟨⟨jBG_of 472 (by decide +kernel) (by decide +kernel), jBG_of 90 (by decide +kernel) (by decide +kernel), by decide +kernel, by decide +kernel, by decide +kernel⟩, jBG_of 470 (by decide +kernel) (by decide +kernel), jBG_of 471 (by decide +kernel) (by decide +kernel), TX4, 5, rfl⟩
set_option maxRecDepth 100000 in
theorem ml_RX5_206 : Cond.methodLink RX5 206 yX5_hasReached ∈ jBG := jBG_of 473 (by decide +kernel) (by decide +kernel)
set_option maxRecDepth 100000 in
theorem yv_X5_hasReached : jYV md_X5_hasReached 1 5 := ⟨⟨jBG_of 476 (by decide +kernel) (by decide +kernel), jBG_of 88 (by decide +kernel) (by decide +kernel), by decide +kernel, by decide +kernel, by decide +kernel⟩, jBG_of 475 (by decide +kernel) (by decide +kernel), jBG_of 8 (by decide +kernel) (by decide +kernel), TX5, 14, rfl⟩
set_option maxRecDepth 100000 in
theorem ml_RX5_145 : Cond.methodLink RX5 145 yX1_lovedBy ∈ jBG := jBG_of 477 (by decide +kernel) (by decide +kernel)
set_option maxRecDepth 100000 in
theorem ml_RX5_128 : Cond.methodLink RX5 128 yX1_has ∈ jBG := jBG_of 439 (by decide +kernel) (by decide +kernel)
set_option maxRecDepth 100000 in
theorem ml_RX5_132 : Cond.methodLink RX5 132 yX5_trait ∈ jBG := jBG_of 440 (by decide +kernel) (by decide +kernel)
set_option maxRecDepth 100000 in
theorem yv_X5_trait : jYV md_X5_trait 2 5 := ⟨⟨jBG_of 443 (by decide +kernel) (by decide +kernel), jBG_of 88 (by decide +kernel) (by decide +kernel), by decide +kernel, by decide +kernel, by decide +kernel⟩, jBG_of 442 (by decide +kernel) (by decide +kernel), jBG_of 7 (by decide +kernel) (by decide +kernel), TX5, 14, rfl⟩
set_option maxRecDepth 100000 in
theorem ml_RX5_197 : Cond.methodLink RX5 197 yX5_isIn ∈ jBG := jBG_of 498 (by decide +kernel) (by decide +kernel)
set_option maxRecDepth 100000 in
theorem ml_RX5_139 : Cond.methodLink RX5 139 yX1_power ∈ jBG := jBG_of 487 (by decide +kernel) (by decide +kernel)
set_option maxRecDepth 100000 in
theorem ml_RX5_162 : Cond.methodLink RX5 162 yX1_against ∈ jBG := jBG_of 499 (by decide +kernel) (by decide +kernel)
set_option maxRecDepth 100000 in
theorem yv_X1_against : jYV md_X1_against 2 1 := ⟨⟨jBG_of 502 (by decide +kernel) (by decide +kernel), jBG_of 92 (by decide +kernel) (by decide +kernel), by decide +kernel, by decide +kernel, by decide +kernel⟩, jBG_of 500 (by decide +kernel) (by decide +kernel), jBG_of 501 (by decide +kernel) (by decide +kernel), TX1, 7, rfl⟩
set_option maxRecDepth 100000 in
theorem ml_RX5_136 : Cond.methodLink RX5 136 yX1_isOf ∈ jBG := jBG_of 482 (by decide +kernel) (by decide +kernel)
set_option maxRecDepth 100000 in
theorem sw_X5_mark_42 : decode md_X5_mark.2.1 42 = .ok (.tableswitch 63 1 4 #[30, 39, 45, 57], 30) := by decide +kernel
set_option maxRecDepth 100000 in
theorem ml_RX5_142 : Cond.methodLink RX5 142 yX5_calmedBy ∈ jBG := jBG_of 494 (by decide +kernel) (by decide +kernel)
set_option maxRecDepth 100000 in
theorem yv_X5_calmedBy : jYV md_X5_calmedBy 1 5 := ⟨⟨jBG_of 497 (by decide +kernel) (by decide +kernel), jBG_of 88 (by decide +kernel) (by decide +kernel), by decide +kernel, by decide +kernel, by decide +kernel⟩, jBG_of 496 (by decide +kernel) (by decide +kernel), jBG_of 9 (by decide +kernel) (by decide +kernel), TX5, 14, rfl⟩
set_option maxRecDepth 100000 in
theorem ml_RX5_148 : Cond.methodLink RX5 148 yJ6_bitCount_0f7a4 ∈ jBG := jBG_of 506 (by decide +kernel) (by decide +kernel)
set_option maxRecDepth 100000 in
theorem ml_RX5_153 : Cond.methodLink RX5 153 yX5_weeksForNine ∈ jBG := jBG_of 512 (by decide +kernel) (by decide +kernel)
set_option maxRecDepth 100000 in
theorem yv_X5_weeksForNine : jYV md_X5_weeksForNine 1 5 := ⟨⟨jBG_of 515 (by decide +kernel) (by decide +kernel), jBG_of 88 (by decide +kernel) (by decide +kernel), by decide +kernel, by decide +kernel, by decide +kernel⟩, jBG_of 514 (by decide +kernel) (by decide +kernel), jBG_of 10 (by decide +kernel) (by decide +kernel), TX5, 14, rfl⟩
set_option maxRecDepth 100000 in
theorem ml_RX5_156 : Cond.methodLink RX5 156 yX5_owesDuty ∈ jBG := jBG_of 516 (by decide +kernel) (by decide +kernel)
set_option maxRecDepth 100000 in
theorem yv_X5_owesDuty : jYV md_X5_owesDuty 1 5 := ⟨⟨jBG_of 519 (by decide +kernel) (by decide +kernel), jBG_of 88 (by decide +kernel) (by decide +kernel), by decide +kernel, by decide +kernel, by decide +kernel⟩, jBG_of 518 (by decide +kernel) (by decide +kernel), jBG_of 11 (by decide +kernel) (by decide +kernel), TX5, 14, rfl⟩
set_option maxRecDepth 100000 in
theorem ml_RX5_159 : Cond.methodLink RX5 159 yX5_isPair ∈ jBG := jBG_of 524 (by decide +kernel) (by decide +kernel)
set_option maxRecDepth 100000 in
theorem yv_X5_isPair : jYV md_X5_isPair 2 5 := ⟨⟨jBG_of 527 (by decide +kernel) (by decide +kernel), jBG_of 88 (by decide +kernel) (by decide +kernel), by decide +kernel, by decide +kernel, by decide +kernel⟩, jBG_of 526 (by decide +kernel) (by decide +kernel), jBG_of 12 (by decide +kernel) (by decide +kernel), TX5, 14, rfl⟩
set_option maxRecDepth 100000 in
theorem fl_RX5_43 : jFL RX5 43 5 6 := ⟨RX5, TX5, 14, rfl, by decide, Or.inl (jBG_of 247 (by decide +kernel) (by decide +kernel))⟩
set_option maxRecDepth 100000 in
theorem ml_RX5_347 : Cond.methodLink RX5 347 yX4_fine ∈ jBG := jBG_of 561 (by decide +kernel) (by decide +kernel)
set_option maxRecDepth 100000 in
theorem yv_X4_fine : jYV md_X4_fine 1 4 := ⟨⟨jBG_of 564 (by decide +kernel) (by decide +kernel), jBG_of 90 (by decide +kernel) (by decide +kernel), by decide +kernel, by decide +kernel, by decide +kernel⟩, jBG_of 562 (by decide +kernel) (by decide +kernel), jBG_of 563 (by decide +kernel) (by decide +kernel), TX4, 5, rfl⟩
set_option maxRecDepth 100000 in
theorem ml_RX5_181 : Cond.methodLink RX5 181 yX4_beginTurn ∈ jBG := jBG_of 548 (by decide +kernel) (by decide +kernel)
set_option maxRecDepth 100000 in
theorem yv_X4_beginTurn : jYV md_X4_beginTurn 0 4 := ⟨⟨jBG_of 551 (by decide +kernel) (by decide +kernel), jBG_of 90 (by decide +kernel) (by decide +kernel), by decide +kernel, by decide +kernel, by decide +kernel⟩, jBG_of 549 (by decide +kernel) (by decide +kernel), jBG_of 550 (by decide +kernel) (by decide +kernel), TX4, 5, rfl⟩
set_option maxRecDepth 100000 in
theorem ml_RX5_285 : Cond.methodLink RX5 285 yX5_reachedSet ∈ jBG := jBG_of 553 (by decide +kernel) (by decide +kernel)
set_option maxRecDepth 100000 in
theorem yv_X5_reachedSet : jYV md_X5_reachedSet 0 5 := ⟨⟨jBG_of 556 (by decide +kernel) (by decide +kernel), jBG_of 88 (by decide +kernel) (by decide +kernel), by decide +kernel, by decide +kernel, by decide +kernel⟩, jBG_of 555 (by decide +kernel) (by decide +kernel), jBG_of 17 (by decide +kernel) (by decide +kernel), TX5, 14, rfl⟩
set_option maxRecDepth 100000 in
theorem ml_RX5_336 : Cond.methodLink RX5 336 yX5_fineIdle ∈ jBG := jBG_of 557 (by decide +kernel) (by decide +kernel)
set_option maxRecDepth 100000 in
theorem yv_X5_fineIdle : jYV md_X5_fineIdle 0 5 := ⟨⟨jBG_of 560 (by decide +kernel) (by decide +kernel), jBG_of 88 (by decide +kernel) (by decide +kernel), by decide +kernel, by decide +kernel, by decide +kernel⟩, jBG_of 559 (by decide +kernel) (by decide +kernel), jBG_of 18 (by decide +kernel) (by decide +kernel), TX5, 14, rfl⟩
set_option maxRecDepth 100000 in
theorem ml_RX5_339 : Cond.methodLink RX5 339 yX4_setDeeds ∈ jBG := jBG_of 565 (by decide +kernel) (by decide +kernel)
set_option maxRecDepth 100000 in
theorem mm_RX5_342 : Cond.methodLink RX5 342 Lib.Math.max.name ∈ jBG := jBG_of 566 (by decide +kernel) (by decide +kernel)
set_option maxRecDepth 100000 in
theorem ml_RX5_318 : Cond.methodLink RX5 318 yX5_refuseRow ∈ jBG := jBG_of 536 (by decide +kernel) (by decide +kernel)
set_option maxRecDepth 100000 in
theorem yv_X5_refuseRow : jYV md_X5_refuseRow 1 5 := ⟨⟨jBG_of 539 (by decide +kernel) (by decide +kernel), jBG_of 88 (by decide +kernel) (by decide +kernel), by decide +kernel, by decide +kernel, by decide +kernel⟩, jBG_of 538 (by decide +kernel) (by decide +kernel), jBG_of 14 (by decide +kernel) (by decide +kernel), TX5, 14, rfl⟩
set_option maxRecDepth 100000 in
theorem ml_RX5_165 : Cond.methodLink RX5 165 yX5_refuseFolkRow ∈ jBG := jBG_of 532 (by decide +kernel) (by decide +kernel)
set_option maxRecDepth 100000 in
theorem yv_X5_refuseFolkRow : jYV md_X5_refuseFolkRow 1 5 := ⟨⟨jBG_of 535 (by decide +kernel) (by decide +kernel), jBG_of 88 (by decide +kernel) (by decide +kernel), by decide +kernel, by decide +kernel, by decide +kernel⟩, jBG_of 534 (by decide +kernel) (by decide +kernel), jBG_of 13 (by decide +kernel) (by decide +kernel), TX5, 14, rfl⟩
set_option maxRecDepth 100000 in
theorem ml_RX5_169 : Cond.methodLink RX5 169 yX5_isAct ∈ jBG := jBG_of 540 (by decide +kernel) (by decide +kernel)
set_option maxRecDepth 100000 in
theorem yv_X5_isAct : jYV md_X5_isAct 2 5 := ⟨⟨jBG_of 543 (by decide +kernel) (by decide +kernel), jBG_of 88 (by decide +kernel) (by decide +kernel), by decide +kernel, by decide +kernel, by decide +kernel⟩, jBG_of 542 (by decide +kernel) (by decide +kernel), jBG_of 15 (by decide +kernel) (by decide +kernel), TX5, 14, rfl⟩
set_option maxRecDepth 100000 in
theorem fl_RX5_172 : jFL RX5 172 4 3 := ⟨RX4, TX4, 5, rfl, by decide, Or.inr ⟨"EnemyByLot", List.mem_of_getElem? (i := 130) (by decide +kernel)⟩⟩
end
section
set_option maxRecDepth 100000 in
theorem ml_RX5_175 : Cond.methodLink RX5 175 yX5_passWeek ∈ jBG := jBG_of 544 (by decide +kernel) (by decide +kernel)
set_option maxRecDepth 100000 in
theorem yv_X5_passWeek : jYV md_X5_passWeek 0 5 := ⟨⟨jBG_of 547 (by decide +kernel) (by decide +kernel), jBG_of 88 (by decide +kernel) (by decide +kernel), by decide +kernel, by decide +kernel, by decide +kernel⟩, jBG_of 546 (by decide +kernel) (by decide +kernel), jBG_of 16 (by decide +kernel) (by decide +kernel), TX5, 14, rfl⟩
set_option maxRecDepth 100000 in
theorem ml_RX5_184 : Cond.methodLink RX5 184 yX4_setVictim ∈ jBG := jBG_of 571 (by decide +kernel) (by decide +kernel)
set_option maxRecDepth 100000 in
theorem ml_RX5_187 : Cond.methodLink RX5 187 yX4_backTo ∈ jBG := jBG_of 576 (by decide +kernel) (by decide +kernel)
set_option maxRecDepth 100000 in
theorem yv_X4_backTo : jYV md_X4_backTo 1 4 := ⟨⟨jBG_of 579 (by decide +kernel) (by decide +kernel), jBG_of 90 (by decide +kernel) (by decide +kernel), by decide +kernel, by decide +kernel, by decide +kernel⟩, jBG_of 577 (by decide +kernel) (by decide +kernel), jBG_of 578 (by decide +kernel) (by decide +kernel), TX4, 5, rfl⟩
set_option maxRecDepth 100000 in
theorem ml_RX5_190 : Cond.methodLink RX5 190 yX5_shelfAt ∈ jBG := jBG_of 584 (by decide +kernel) (by decide +kernel)
set_option maxRecDepth 100000 in
theorem yv_X5_shelfAt : jYV md_X5_shelfAt 1 5 := ⟨⟨jBG_of 587 (by decide +kernel) (by decide +kernel), jBG_of 88 (by decide +kernel) (by decide +kernel), by decide +kernel, by decide +kernel, by decide +kernel⟩, jBG_of 586 (by decide +kernel) (by decide +kernel), jBG_of 19 (by decide +kernel) (by decide +kernel), TX5, 14, rfl⟩
set_option maxRecDepth 100000 in
theorem ml_RX5_194 : Cond.methodLink RX5 194 yX4_take ∈ jBG := jBG_of 588 (by decide +kernel) (by decide +kernel)
set_option maxRecDepth 100000 in
theorem yv_X4_take : jYV md_X4_take 1 4 := ⟨⟨jBG_of 591 (by decide +kernel) (by decide +kernel), jBG_of 90 (by decide +kernel) (by decide +kernel), by decide +kernel, by decide +kernel, by decide +kernel⟩, jBG_of 589 (by decide +kernel) (by decide +kernel), jBG_of 590 (by decide +kernel) (by decide +kernel), TX4, 5, rfl⟩
set_option maxRecDepth 100000 in
theorem fl_RX5_123 : jFL RX5 123 4 4 := ⟨RX4, TX4, 5, rfl, by decide, Or.inr ⟨"EnemyByLot", List.mem_of_getElem? (i := 131) (by decide +kernel)⟩⟩
set_option maxRecDepth 100000 in
theorem ml_RX5_200 : Cond.methodLink RX5 200 yX5_ringOf ∈ jBG := jBG_of 600 (by decide +kernel) (by decide +kernel)
set_option maxRecDepth 100000 in
theorem yv_X5_ringOf : jYV md_X5_ringOf 1 5 := ⟨⟨jBG_of 603 (by decide +kernel) (by decide +kernel), jBG_of 88 (by decide +kernel) (by decide +kernel), by decide +kernel, by decide +kernel, by decide +kernel⟩, jBG_of 602 (by decide +kernel) (by decide +kernel), jBG_of 20 (by decide +kernel) (by decide +kernel), TX5, 14, rfl⟩
set_option maxRecDepth 100000 in
theorem ml_RX5_209 : Cond.methodLink RX5 209 yX5_lossOf ∈ jBG := jBG_of 612 (by decide +kernel) (by decide +kernel)
set_option maxRecDepth 100000 in
theorem yv_X5_lossOf : jYV md_X5_lossOf 1 5 := ⟨⟨jBG_of 615 (by decide +kernel) (by decide +kernel), jBG_of 88 (by decide +kernel) (by decide +kernel), by decide +kernel, by decide +kernel, by decide +kernel⟩, jBG_of 614 (by decide +kernel) (by decide +kernel), jBG_of 21 (by decide +kernel) (by decide +kernel), TX5, 14, rfl⟩
set_option maxRecDepth 100000 in
theorem ml_RX5_354 : Cond.methodLink RX5 354 yX5_afterWeek ∈ jBG := jBG_of 624 (by decide +kernel) (by decide +kernel)
set_option maxRecDepth 100000 in
theorem ys_X5_afterWeek : jYS md_X5_afterWeek 2 := ⟨⟨jBG_of 626 (by decide +kernel) (by decide +kernel), jBG_of 88 (by decide +kernel) (by decide +kernel), by decide +kernel, by decide +kernel, by decide +kernel⟩, jBG_of 625 (by decide +kernel) (by decide +kernel)⟩
set_option maxRecDepth 100000 in
theorem ml_RX5_212 : Cond.methodLink RX5 212 yX5_fewestWeeks ∈ jBG := jBG_of 620 (by decide +kernel) (by decide +kernel)
set_option maxRecDepth 100000 in
theorem yv_X5_fewestWeeks : jYV md_X5_fewestWeeks 2 5 := ⟨⟨jBG_of 623 (by decide +kernel) (by decide +kernel), jBG_of 88 (by decide +kernel) (by decide +kernel), by decide +kernel, by decide +kernel, by decide +kernel⟩, jBG_of 622 (by decide +kernel) (by decide +kernel), jBG_of 22 (by decide +kernel) (by decide +kernel), TX5, 14, rfl⟩
set_option maxRecDepth 100000 in
theorem ml_RX5_215 : Cond.methodLink RX5 215 yX5_reachesThrough ∈ jBG := jBG_of 635 (by decide +kernel) (by decide +kernel)
set_option maxRecDepth 100000 in
theorem yv_X5_reachesThrough : jYV md_X5_reachesThrough 3 5 := ⟨⟨jBG_of 638 (by decide +kernel) (by decide +kernel), jBG_of 88 (by decide +kernel) (by decide +kernel), by decide +kernel, by decide +kernel, by decide +kernel⟩, jBG_of 637 (by decide +kernel) (by decide +kernel), jBG_of 23 (by decide +kernel) (by decide +kernel), TX5, 14, rfl⟩
set_option maxRecDepth 100000 in
theorem ml_RX5_219 : Cond.methodLink RX5 219 yX5_isWish ∈ jBG := jBG_of 643 (by decide +kernel) (by decide +kernel)
set_option maxRecDepth 100000 in
theorem yv_X5_isWish : jYV md_X5_isWish 2 5 := ⟨⟨jBG_of 646 (by decide +kernel) (by decide +kernel), jBG_of 88 (by decide +kernel) (by decide +kernel), by decide +kernel, by decide +kernel, by decide +kernel⟩, jBG_of 645 (by decide +kernel) (by decide +kernel), jBG_of 24 (by decide +kernel) (by decide +kernel), TX5, 14, rfl⟩
set_option maxRecDepth 100000 in
theorem fl_RX5_39 : jFL RX5 39 5 5 := ⟨RX5, TX5, 14, rfl, by decide, Or.inl (jBG_of 246 (by decide +kernel) (by decide +kernel))⟩
set_option maxRecDepth 100000 in
theorem ml_RX5_235 : Cond.methodLink RX5 235 yX0_victimIn ∈ jBG := jBG_of 673 (by decide +kernel) (by decide +kernel)
set_option maxRecDepth 100000 in
theorem ml_RX5_222 : Cond.methodLink RX5 222 yX4_victimSet ∈ jBG := jBG_of 651 (by decide +kernel) (by decide +kernel)
set_option maxRecDepth 100000 in
theorem yv_X4_victimSet : jYV md_X4_victimSet 0 4 := ⟨⟨jBG_of 654 (by decide +kernel) (by decide +kernel), jBG_of 90 (by decide +kernel) (by decide +kernel), by decide +kernel, by decide +kernel, by decide +kernel⟩, jBG_of 652 (by decide +kernel) (by decide +kernel), jBG_of 653 (by decide +kernel) (by decide +kernel), TX4, 5, rfl⟩
set_option maxRecDepth 100000 in
theorem ml_RX5_225 : Cond.methodLink RX5 225 yX0_seek ∈ jBG := jBG_of 655 (by decide +kernel) (by decide +kernel)
set_option maxRecDepth 100000 in
theorem yv_X0_seek : jYV md_X0_seek 3 0 := ⟨⟨jBG_of 658 (by decide +kernel) (by decide +kernel), jBG_of 91 (by decide +kernel) (by decide +kernel), by decide +kernel, by decide +kernel, by decide +kernel⟩, jBG_of 656 (by decide +kernel) (by decide +kernel), jBG_of 657 (by decide +kernel) (by decide +kernel), TX0, 5, rfl⟩
set_option maxRecDepth 100000 in
theorem ml_RX5_229 : Cond.methodLink RX5 229 yX5_strengthsIn ∈ jBG := jBG_of 669 (by decide +kernel) (by decide +kernel)
set_option maxRecDepth 100000 in
theorem yv_X5_strengthsIn : jYV md_X5_strengthsIn 1 5 := ⟨⟨jBG_of 672 (by decide +kernel) (by decide +kernel), jBG_of 88 (by decide +kernel) (by decide +kernel), by decide +kernel, by decide +kernel, by decide +kernel⟩, jBG_of 671 (by decide +kernel) (by decide +kernel), jBG_of 26 (by decide +kernel) (by decide +kernel), TX5, 14, rfl⟩
set_option maxRecDepth 100000 in
theorem fl_RX5_232 : jFL RX5 232 0 3 := ⟨RX0, TX0, 5, rfl, by decide, Or.inr ⟨"EnemyByLot", List.mem_of_getElem? (i := 154) (by decide +kernel)⟩⟩
set_option maxRecDepth 100000 in
theorem ml_RX5_238 : Cond.methodLink RX5 238 yX5_isMapOfNow ∈ jBG := jBG_of 681 (by decide +kernel) (by decide +kernel)
set_option maxRecDepth 100000 in
theorem yv_X5_isMapOfNow : jYV md_X5_isMapOfNow 1 5 := ⟨⟨jBG_of 684 (by decide +kernel) (by decide +kernel), jBG_of 88 (by decide +kernel) (by decide +kernel), by decide +kernel, by decide +kernel, by decide +kernel⟩, jBG_of 683 (by decide +kernel) (by decide +kernel), jBG_of 27 (by decide +kernel) (by decide +kernel), TX5, 14, rfl⟩
set_option maxRecDepth 100000 in
theorem ml_RX5_357 : Cond.methodLink RX5 357 yX5_commonDivisor ∈ jBG := jBG_of 697 (by decide +kernel) (by decide +kernel)
set_option maxRecDepth 100000 in
theorem ys_X5_commonDivisor : jYS md_X5_commonDivisor 2 := ⟨⟨jBG_of 699 (by decide +kernel) (by decide +kernel), jBG_of 88 (by decide +kernel) (by decide +kernel), by decide +kernel, by decide +kernel, by decide +kernel⟩, jBG_of 698 (by decide +kernel) (by decide +kernel)⟩
set_option maxRecDepth 100000 in
theorem fp_RX5_279 (nm : String) : jFP RX5 nm 279 5 12 .long := ⟨RX5, TX5, 14, rfl, by decide, by decide +kernel, Or.inl ⟨rfl, Or.inl (jBG_of 253 (by decide +kernel) (by decide +kernel))⟩⟩
set_option maxRecDepth 100000 in
theorem ml_RX5_242 : Cond.methodLink RX5 242 yX1_everyone ∈ jBG := jBG_of 689 (by decide +kernel) (by decide +kernel)
set_option maxRecDepth 100000 in
theorem yv_X1_everyone : jYV md_X1_everyone 0 1 := ⟨⟨jBG_of 692 (by decide +kernel) (by decide +kernel), jBG_of 92 (by decide +kernel) (by decide +kernel), by decide +kernel, by decide +kernel, by decide +kernel⟩, jBG_of 690 (by decide +kernel) (by decide +kernel), jBG_of 691 (by decide +kernel) (by decide +kernel), TX1, 7, rfl⟩
set_option maxRecDepth 100000 in
theorem ml_RX5_245 : Cond.methodLink RX5 245 yX5_tell ∈ jBG := jBG_of 693 (by decide +kernel) (by decide +kernel)
set_option maxRecDepth 100000 in
theorem yv_X5_tell : jYV md_X5_tell 2 5 := ⟨⟨jBG_of 696 (by decide +kernel) (by decide +kernel), jBG_of 88 (by decide +kernel) (by decide +kernel), by decide +kernel, by decide +kernel, by decide +kernel⟩, jBG_of 695 (by decide +kernel) (by decide +kernel), jBG_of 28 (by decide +kernel) (by decide +kernel), TX5, 14, rfl⟩
set_option maxRecDepth 100000 in
theorem ml_RX5_249 : Cond.methodLink RX5 249 yX5_refuseDraw ∈ jBG := jBG_of 704 (by decide +kernel) (by decide +kernel)
set_option maxRecDepth 100000 in
theorem yv_X5_refuseDraw : jYV md_X5_refuseDraw 2 5 := ⟨⟨jBG_of 707 (by decide +kernel) (by decide +kernel), jBG_of 88 (by decide +kernel) (by decide +kernel), by decide +kernel, by decide +kernel, by decide +kernel⟩, jBG_of 706 (by decide +kernel) (by decide +kernel), jBG_of 29 (by decide +kernel) (by decide +kernel), TX5, 14, rfl⟩
set_option maxRecDepth 100000 in
theorem ml_RX5_252 : Cond.methodLink RX5 252 yX0_countPair ∈ jBG := jBG_of 708 (by decide +kernel) (by decide +kernel)
set_option maxRecDepth 100000 in
theorem yv_X0_countPair : jYV md_X0_countPair 2 0 := ⟨⟨jBG_of 711 (by decide +kernel) (by decide +kernel), jBG_of 91 (by decide +kernel) (by decide +kernel), by decide +kernel, by decide +kernel, by decide +kernel⟩, jBG_of 709 (by decide +kernel) (by decide +kernel), jBG_of 710 (by decide +kernel) (by decide +kernel), TX0, 5, rfl⟩
set_option maxRecDepth 100000 in
theorem ml_RX5_255 : Cond.methodLink RX5 255 yX0_countMutual ∈ jBG := jBG_of 717 (by decide +kernel) (by decide +kernel)
set_option maxRecDepth 100000 in
theorem yv_X0_countMutual : jYV md_X0_countMutual 2 0 := ⟨⟨jBG_of 720 (by decide +kernel) (by decide +kernel), jBG_of 91 (by decide +kernel) (by decide +kernel), by decide +kernel, by decide +kernel, by decide +kernel⟩, jBG_of 718 (by decide +kernel) (by decide +kernel), jBG_of 719 (by decide +kernel) (by decide +kernel), TX0, 5, rfl⟩
set_option maxRecDepth 100000 in
theorem ml_RX5_361 : Cond.methodLink RX5 361 yX0_retain ∈ jBG := jBG_of 733 (by decide +kernel) (by decide +kernel)
set_option maxRecDepth 100000 in
theorem yv_X0_retain : jYV md_X0_retain 2 0 := ⟨⟨jBG_of 736 (by decide +kernel) (by decide +kernel), jBG_of 91 (by decide +kernel) (by decide +kernel), by decide +kernel, by decide +kernel, by decide +kernel⟩, jBG_of 734 (by decide +kernel) (by decide +kernel), jBG_of 735 (by decide +kernel) (by decide +kernel), TX0, 5, rfl⟩
set_option maxRecDepth 100000 in
theorem ml_RX5_258 : Cond.methodLink RX5 258 yX5_refuseWeeks ∈ jBG := jBG_of 725 (by decide +kernel) (by decide +kernel)
set_option maxRecDepth 100000 in
theorem yv_X5_refuseWeeks : jYV md_X5_refuseWeeks 1 5 := ⟨⟨jBG_of 728 (by decide +kernel) (by decide +kernel), jBG_of 88 (by decide +kernel) (by decide +kernel), by decide +kernel, by decide +kernel, by decide +kernel⟩, jBG_of 727 (by decide +kernel) (by decide +kernel), jBG_of 30 (by decide +kernel) (by decide +kernel), TX5, 14, rfl⟩
set_option maxRecDepth 100000 in
theorem ml_RX5_261 : Cond.methodLink RX5 261 yX5_seekFits ∈ jBG := jBG_of 729 (by decide +kernel) (by decide +kernel)
set_option maxRecDepth 100000 in
theorem yv_X5_seekFits : jYV md_X5_seekFits 1 5 := ⟨⟨jBG_of 732 (by decide +kernel) (by decide +kernel), jBG_of 88 (by decide +kernel) (by decide +kernel), by decide +kernel, by decide +kernel, by decide +kernel⟩, jBG_of 731 (by decide +kernel) (by decide +kernel), jBG_of 31 (by decide +kernel) (by decide +kernel), TX5, 14, rfl⟩
set_option maxRecDepth 100000 in
theorem ml_RX5_265 : Cond.methodLink RX5 265 yX5_refuseFits ∈ jBG := jBG_of 745 (by decide +kernel) (by decide +kernel)
set_option maxRecDepth 100000 in
theorem yv_X5_refuseFits : jYV md_X5_refuseFits 1 5 := ⟨⟨jBG_of 748 (by decide +kernel) (by decide +kernel), jBG_of 88 (by decide +kernel) (by decide +kernel), by decide +kernel, by decide +kernel, by decide +kernel⟩, jBG_of 747 (by decide +kernel) (by decide +kernel), jBG_of 33 (by decide +kernel) (by decide +kernel), TX5, 14, rfl⟩
set_option maxRecDepth 100000 in
theorem ml_RX5_268 : Cond.methodLink RX5 268 yX0_mostAlike ∈ jBG := jBG_of 753 (by decide +kernel) (by decide +kernel)
set_option maxRecDepth 100000 in
theorem yv_X0_mostAlike : jYV md_X0_mostAlike 1 0 := ⟨⟨jBG_of 756 (by decide +kernel) (by decide +kernel), jBG_of 91 (by decide +kernel) (by decide +kernel), by decide +kernel, by decide +kernel, by decide +kernel⟩, jBG_of 754 (by decide +kernel) (by decide +kernel), jBG_of 755 (by decide +kernel) (by decide +kernel), TX0, 5, rfl⟩
set_option maxRecDepth 100000 in
theorem lc_RX5_350 : Cond.constantLong RX5 350 4 ∈ jBG := jBG_of 771 (by decide +kernel) (by decide +kernel)
set_option maxRecDepth 100000 in
theorem lc_RX5_352 : Cond.constantLong RX5 352 3 ∈ jBG := jBG_of 772 (by decide +kernel) (by decide +kernel)
set_option maxRecDepth 100000 in
theorem lc_RX5_271 : Cond.constantLong RX5 271 2147483647 ∈ jBG := jBG_of 765 (by decide +kernel) (by decide +kernel)
set_option maxRecDepth 100000 in
theorem lc_RX5_273 : Cond.constantLong RX5 273 48271 ∈ jBG := jBG_of 766 (by decide +kernel) (by decide +kernel)
set_option maxRecDepth 100000 in
theorem ml_RX5_275 : Cond.methodLink RX5 275 yX5_actByLot ∈ jBG := jBG_of 767 (by decide +kernel) (by decide +kernel)
set_option maxRecDepth 100000 in
theorem yv_X5_actByLot : jYV md_X5_actByLot 2 5 := ⟨⟨jBG_of 770 (by decide +kernel) (by decide +kernel), jBG_of 88 (by decide +kernel) (by decide +kernel), by decide +kernel, by decide +kernel, by decide +kernel⟩, jBG_of 769 (by decide +kernel) (by decide +kernel), jBG_of 34 (by decide +kernel) (by decide +kernel), TX5, 14, rfl⟩
set_option maxRecDepth 100000 in
theorem fl_RX5_90 : jFL RX5 90 5 11 := ⟨RX5, TX5, 14, rfl, by decide, Or.inl (jBG_of 252 (by decide +kernel) (by decide +kernel))⟩
set_option maxRecDepth 100000 in
theorem fl_RX5_279 : jFL RX5 279 5 12 := ⟨RX5, TX5, 14, rfl, by decide, Or.inl (jBG_of 253 (by decide +kernel) (by decide +kernel))⟩
set_option maxRecDepth 100000 in
theorem fl_RX5_67 : jFL RX5 67 5 13 := ⟨RX5, TX5, 14, rfl, by decide, Or.inl (jBG_of 254 (by decide +kernel) (by decide +kernel))⟩
set_option maxRecDepth 100000 in
theorem sw_X5_count_1 : decode md_X5_count.2.1 1 = .ok (.tableswitch 129 0 9 #[55, 63, 74, 82, 90, 98, 103, 108, 116, 124], 55) := by decide +kernel
set_option maxRecDepth 100000 in
theorem fl_RX5_282 : jFL RX5 282 1 6 := ⟨RX1, TX1, 7, rfl, by decide, Or.inr ⟨"EnemyByLot", List.mem_of_getElem? (i := 184) (by decide +kernel)⟩⟩
set_option maxRecDepth 100000 in
theorem ml_RX5_288 : Cond.methodLink RX5 288 yX5_allFines ∈ jBG := jBG_of 789 (by decide +kernel) (by decide +kernel)
set_option maxRecDepth 100000 in
theorem yv_X5_allFines : jYV md_X5_allFines 0 5 := ⟨⟨jBG_of 792 (by decide +kernel) (by decide +kernel), jBG_of 88 (by decide +kernel) (by decide +kernel), by decide +kernel, by decide +kernel, by decide +kernel⟩, jBG_of 791 (by decide +kernel) (by decide +kernel), jBG_of 35 (by decide +kernel) (by decide +kernel), TX5, 14, rfl⟩
set_option maxRecDepth 100000 in
theorem ml_RX5_291 : Cond.methodLink RX5 291 yX5_zealots ∈ jBG := jBG_of 793 (by decide +kernel) (by decide +kernel)
set_option maxRecDepth 100000 in
theorem yv_X5_zealots : jYV md_X5_zealots 0 5 := ⟨⟨jBG_of 796 (by decide +kernel) (by decide +kernel), jBG_of 88 (by decide +kernel) (by decide +kernel), by decide +kernel, by decide +kernel, by decide +kernel⟩, jBG_of 795 (by decide +kernel) (by decide +kernel), jBG_of 36 (by decide +kernel) (by decide +kernel), TX5, 14, rfl⟩
set_option maxRecDepth 100000 in
theorem ml_RX5_294 : Cond.methodLink RX5 294 yX5_present ∈ jBG := jBG_of 797 (by decide +kernel) (by decide +kernel)
set_option maxRecDepth 100000 in
theorem ys_X5_present : jYS md_X5_present 1 := ⟨⟨jBG_of 799 (by decide +kernel) (by decide +kernel), jBG_of 88 (by decide +kernel) (by decide +kernel), by decide +kernel, by decide +kernel, by decide +kernel⟩, jBG_of 798 (by decide +kernel) (by decide +kernel)⟩
set_option maxRecDepth 100000 in
theorem ml_RX5_298 : Cond.methodLink RX5 298 yX5_keptTowns ∈ jBG := jBG_of 800 (by decide +kernel) (by decide +kernel)
set_option maxRecDepth 100000 in
theorem yv_X5_keptTowns : jYV md_X5_keptTowns 0 5 := ⟨⟨jBG_of 803 (by decide +kernel) (by decide +kernel), jBG_of 88 (by decide +kernel) (by decide +kernel), by decide +kernel, by decide +kernel, by decide +kernel⟩, jBG_of 802 (by decide +kernel) (by decide +kernel), jBG_of 37 (by decide +kernel) (by decide +kernel), TX5, 14, rfl⟩
set_option maxRecDepth 100000 in
theorem fl_RX5_301 : jFL RX5 301 5 10 := ⟨RX5, TX5, 14, rfl, by decide, Or.inl (jBG_of 251 (by decide +kernel) (by decide +kernel))⟩
set_option maxRecDepth 100000 in
theorem lc_RX5_304 : Cond.constantLong RX5 304 17 ∈ jBG := jBG_of 816 (by decide +kernel) (by decide +kernel)
set_option maxRecDepth 100000 in
theorem lc_RX5_306 : Cond.constantLong RX5 306 31 ∈ jBG := jBG_of 817 (by decide +kernel) (by decide +kernel)
set_option maxRecDepth 100000 in
theorem ml_RX5_308 : Cond.methodLink RX5 308 yX5_count ∈ jBG := jBG_of 818 (by decide +kernel) (by decide +kernel)
set_option maxRecDepth 100000 in
theorem yv_X5_count : jYV md_X5_count 1 5 := ⟨⟨jBG_of 788 (by decide +kernel) (by decide +kernel), jBG_of 88 (by decide +kernel) (by decide +kernel), by decide +kernel, by decide +kernel, by decide +kernel⟩, jBG_of 786 (by decide +kernel) (by decide +kernel), jBG_of 787 (by decide +kernel) (by decide +kernel), TX5, 14, rfl⟩
set_option maxRecDepth 100000 in
theorem ml_RX5_311 : Cond.methodLink RX5 311 yX2_mixInto ∈ jBG := jBG_of 819 (by decide +kernel) (by decide +kernel)
set_option maxRecDepth 100000 in
theorem yv_X2_mixInto : jYV md_X2_mixInto 1 2 := ⟨⟨jBG_of 822 (by decide +kernel) (by decide +kernel), jBG_of 93 (by decide +kernel) (by decide +kernel), by decide +kernel, by decide +kernel, by decide +kernel⟩, jBG_of 820 (by decide +kernel) (by decide +kernel), jBG_of 821 (by decide +kernel) (by decide +kernel), TX2, 2, rfl⟩
set_option maxRecDepth 100000 in
theorem mo_RX6_1 : Cond.methodLink RX6 1 Lib.objectInit ∈ jBG := jBG_of 829 (by decide +kernel) (by decide +kernel)
set_option maxRecDepth 100000 in
theorem fp_RX6_7_i : jFP RX6 "<init>" 7 6 0 (.array .int) := ⟨RX6, TX6, 28, rfl, by decide, by decide +kernel, Or.inr ⟨rfl, rfl, rfl, jBG_of 830 (by decide +kernel) (by decide +kernel)⟩⟩
set_option maxRecDepth 100000 in
theorem fp_RX6_13_i : jFP RX6 "<init>" 13 6 2 (.array .int) := ⟨RX6, TX6, 28, rfl, by decide, by decide +kernel, Or.inr ⟨rfl, rfl, rfl, jBG_of 832 (by decide +kernel) (by decide +kernel)⟩⟩
set_option maxRecDepth 100000 in
theorem fp_RX6_16_i : jFP RX6 "<init>" 16 6 3 (.array .int) := ⟨RX6, TX6, 28, rfl, by decide, by decide +kernel, Or.inr ⟨rfl, rfl, rfl, jBG_of 833 (by decide +kernel) (by decide +kernel)⟩⟩
set_option maxRecDepth 100000 in
theorem fp_RX6_19_i : jFP RX6 "<init>" 19 6 4 (.array .int) := ⟨RX6, TX6, 28, rfl, by decide, by decide +kernel, Or.inr ⟨rfl, rfl, rfl, jBG_of 834 (by decide +kernel) (by decide +kernel)⟩⟩
set_option maxRecDepth 100000 in
theorem fp_RX6_22_i : jFP RX6 "<init>" 22 6 5 (.array .int) := ⟨RX6, TX6, 28, rfl, by decide, by decide +kernel, Or.inr ⟨rfl, rfl, rfl, jBG_of 835 (by decide +kernel) (by decide +kernel)⟩⟩
set_option maxRecDepth 100000 in
theorem fp_RX6_25_i : jFP RX6 "<init>" 25 6 7 (.array .int) := ⟨RX6, TX6, 28, rfl, by decide, by decide +kernel, Or.inr ⟨rfl, rfl, rfl, jBG_of 837 (by decide +kernel) (by decide +kernel)⟩⟩
set_option maxRecDepth 100000 in
theorem fp_RX6_28_i : jFP RX6 "<init>" 28 6 8 (.array .int) := ⟨RX6, TX6, 28, rfl, by decide, by decide +kernel, Or.inr ⟨rfl, rfl, rfl, jBG_of 838 (by decide +kernel) (by decide +kernel)⟩⟩
set_option maxRecDepth 100000 in
theorem fp_RX6_31_i : jFP RX6 "<init>" 31 6 9 (.array .int) := ⟨RX6, TX6, 28, rfl, by decide, by decide +kernel, Or.inr ⟨rfl, rfl, rfl, jBG_of 839 (by decide +kernel) (by decide +kernel)⟩⟩
set_option maxRecDepth 100000 in
theorem fp_RX6_34_i : jFP RX6 "<init>" 34 6 10 (.array .int) := ⟨RX6, TX6, 28, rfl, by decide, by decide +kernel, Or.inr ⟨rfl, rfl, rfl, jBG_of 840 (by decide +kernel) (by decide +kernel)⟩⟩
set_option maxRecDepth 100000 in
theorem fp_RX6_37 (nm : String) : jFP RX6 nm 37 6 13 .long := ⟨RX6, TX6, 28, rfl, by decide, by decide +kernel, Or.inl ⟨rfl, Or.inl (jBG_of 843 (by decide +kernel) (by decide +kernel))⟩⟩
set_option maxRecDepth 100000 in
theorem fp_RX6_41_i : jFP RX6 "<init>" 41 6 15 (.array .int) := ⟨RX6, TX6, 28, rfl, by decide, by decide +kernel, Or.inr ⟨rfl, rfl, rfl, jBG_of 845 (by decide +kernel) (by decide +kernel)⟩⟩
set_option maxRecDepth 100000 in
theorem fp_RX6_44_i : jFP RX6 "<init>" 44 6 19 (.array .int) := ⟨RX6, TX6, 28, rfl, by decide, by decide +kernel, Or.inr ⟨rfl, rfl, rfl, jBG_of 849 (by decide +kernel) (by decide +kernel)⟩⟩
set_option maxRecDepth 100000 in
theorem fp_RX6_47_i : jFP RX6 "<init>" 47 6 21 (.array .int) := ⟨RX6, TX6, 28, rfl, by decide, by decide +kernel, Or.inr ⟨rfl, rfl, rfl, jBG_of 851 (by decide +kernel) (by decide +kernel)⟩⟩
set_option maxRecDepth 100000 in
theorem fp_RX6_50_i : jFP RX6 "<init>" 50 6 23 (.array .int) := ⟨RX6, TX6, 28, rfl, by decide, by decide +kernel, Or.inr ⟨rfl, rfl, rfl, jBG_of 853 (by decide +kernel) (by decide +kernel)⟩⟩
set_option maxRecDepth 100000 in
theorem fp_RX6_53_i : jFP RX6 "<init>" 53 6 24 (.array .int) := ⟨RX6, TX6, 28, rfl, by decide, by decide +kernel, Or.inr ⟨rfl, rfl, rfl, jBG_of 854 (by decide +kernel) (by decide +kernel)⟩⟩
set_option maxRecDepth 100000 in
theorem fp_RX6_56_i : jFP RX6 "<init>" 56 6 25 (.array .int) := ⟨RX6, TX6, 28, rfl, by decide, by decide +kernel, Or.inr ⟨rfl, rfl, rfl, jBG_of 855 (by decide +kernel) (by decide +kernel)⟩⟩
set_option maxRecDepth 100000 in
theorem fp_RX6_59_i : jFP RX6 "<init>" 59 6 27 (.array .int) := ⟨RX6, TX6, 28, rfl, by decide, by decide +kernel, Or.inr ⟨rfl, rfl, rfl, jBG_of 857 (by decide +kernel) (by decide +kernel)⟩⟩
set_option maxRecDepth 100000 in
theorem fl_RX6_7 : jFL RX6 7 6 0 := ⟨RX6, TX6, 28, rfl, by decide, Or.inl (jBG_of 830 (by decide +kernel) (by decide +kernel))⟩
set_option maxRecDepth 100000 in
theorem fp_RX6_62 (nm : String) : jFP RX6 nm 62 6 14 .int := ⟨RX6, TX6, 28, rfl, by decide, by decide +kernel, Or.inl ⟨rfl, Or.inl (jBG_of 844 (by decide +kernel) (by decide +kernel))⟩⟩
set_option maxRecDepth 100000 in
theorem fl_RX6_41 : jFL RX6 41 6 15 := ⟨RX6, TX6, 28, rfl, by decide, Or.inl (jBG_of 845 (by decide +kernel) (by decide +kernel))⟩
set_option maxRecDepth 100000 in
theorem fp_RX6_66 (nm : String) : jFP RX6 nm 66 6 11 .int := ⟨RX6, TX6, 28, rfl, by decide, by decide +kernel, Or.inl ⟨rfl, Or.inl (jBG_of 841 (by decide +kernel) (by decide +kernel))⟩⟩
set_option maxRecDepth 100000 in
theorem lc_RX6_69 : Cond.constantLong RX6 69 5 ∈ jBG := jBG_of 922 (by decide +kernel) (by decide +kernel)
set_option maxRecDepth 100000 in
theorem ml_RX6_71 : Cond.methodLink RX6 71 yX6_in ∈ jBG := jBG_of 923 (by decide +kernel) (by decide +kernel)
set_option maxRecDepth 100000 in
theorem ys_X6_in : jYS md_X6_in 3 := ⟨⟨jBG_of 925 (by decide +kernel) (by decide +kernel), jBG_of 95 (by decide +kernel) (by decide +kernel), by decide +kernel, by decide +kernel, by decide +kernel⟩, jBG_of 924 (by decide +kernel) (by decide +kernel)⟩
set_option maxRecDepth 100000 in
theorem lc_RX6_75 : Cond.constantLong RX6 75 3 ∈ jBG := jBG_of 973 (by decide +kernel) (by decide +kernel)
set_option maxRecDepth 100000 in
theorem fl_RX6_25 : jFL RX6 25 6 7 := ⟨RX6, TX6, 28, rfl, by decide, Or.inl (jBG_of 837 (by decide +kernel) (by decide +kernel))⟩
set_option maxRecDepth 100000 in
theorem fl_RX6_28 : jFL RX6 28 6 8 := ⟨RX6, TX6, 28, rfl, by decide, Or.inl (jBG_of 838 (by decide +kernel) (by decide +kernel))⟩
set_option maxRecDepth 100000 in
theorem ml_RX6_77 : Cond.methodLink RX6 77 yX6_isRow ∈ jBG := jBG_of 919 (by decide +kernel) (by decide +kernel)
set_option maxRecDepth 100000 in
theorem ys_X6_isRow : jYS md_X6_isRow 1 := ⟨⟨jBG_of 921 (by decide +kernel) (by decide +kernel), jBG_of 95 (by decide +kernel) (by decide +kernel), by decide +kernel, by decide +kernel, by decide +kernel⟩, jBG_of 920 (by decide +kernel) (by decide +kernel)⟩
set_option maxRecDepth 100000 in
theorem ml_RX6_85 : Cond.methodLink RX6 85 yX6_makeRow ∈ jBG := jBG_of 930 (by decide +kernel) (by decide +kernel)
set_option maxRecDepth 100000 in
theorem yv_X6_makeRow : jYV md_X6_makeRow 2 6 := ⟨⟨jBG_of 933 (by decide +kernel) (by decide +kernel), jBG_of 95 (by decide +kernel) (by decide +kernel), by decide +kernel, by decide +kernel, by decide +kernel⟩, jBG_of 932 (by decide +kernel) (by decide +kernel), jBG_of 39 (by decide +kernel) (by decide +kernel), TX6, 28, rfl⟩
set_option maxRecDepth 100000 in
theorem ml_RX6_81 : Cond.methodLink RX6 81 yX6_find ∈ jBG := jBG_of 926 (by decide +kernel) (by decide +kernel)
set_option maxRecDepth 100000 in
theorem yv_X6_find : jYV md_X6_find 1 6 := ⟨⟨jBG_of 929 (by decide +kernel) (by decide +kernel), jBG_of 95 (by decide +kernel) (by decide +kernel), by decide +kernel, by decide +kernel, by decide +kernel⟩, jBG_of 928 (by decide +kernel) (by decide +kernel), jBG_of 38 (by decide +kernel) (by decide +kernel), TX6, 28, rfl⟩
set_option maxRecDepth 100000 in
theorem ml_RX6_89 : Cond.methodLink RX6 89 yX6_refused ∈ jBG := jBG_of 938 (by decide +kernel) (by decide +kernel)
set_option maxRecDepth 100000 in
theorem yv_X6_refused : jYV md_X6_refused 2 6 := ⟨⟨jBG_of 941 (by decide +kernel) (by decide +kernel), jBG_of 95 (by decide +kernel) (by decide +kernel), by decide +kernel, by decide +kernel, by decide +kernel⟩, jBG_of 940 (by decide +kernel) (by decide +kernel), jBG_of 40 (by decide +kernel) (by decide +kernel), TX6, 28, rfl⟩
set_option maxRecDepth 100000 in
theorem ml_RX6_93 : Cond.methodLink RX6 93 yX6_tell ∈ jBG := jBG_of 942 (by decide +kernel) (by decide +kernel)
set_option maxRecDepth 100000 in
theorem yv_X6_tell : jYV md_X6_tell 1 6 := ⟨⟨jBG_of 945 (by decide +kernel) (by decide +kernel), jBG_of 95 (by decide +kernel) (by decide +kernel), by decide +kernel, by decide +kernel, by decide +kernel⟩, jBG_of 944 (by decide +kernel) (by decide +kernel), jBG_of 41 (by decide +kernel) (by decide +kernel), TX6, 28, rfl⟩
set_option maxRecDepth 100000 in
theorem ml_RX6_96 : Cond.methodLink RX6 96 yX6_isSpan ∈ jBG := jBG_of 958 (by decide +kernel) (by decide +kernel)
set_option maxRecDepth 100000 in
theorem yv_X6_isSpan : jYV md_X6_isSpan 3 6 := ⟨⟨jBG_of 961 (by decide +kernel) (by decide +kernel), jBG_of 95 (by decide +kernel) (by decide +kernel), by decide +kernel, by decide +kernel, by decide +kernel⟩, jBG_of 960 (by decide +kernel) (by decide +kernel), jBG_of 42 (by decide +kernel) (by decide +kernel), TX6, 28, rfl⟩
set_option maxRecDepth 100000 in
theorem ml_RX6_100 : Cond.methodLink RX6 100 yX6_isText ∈ jBG := jBG_of 970 (by decide +kernel) (by decide +kernel)
set_option maxRecDepth 100000 in
theorem ys_X6_isText : jYS md_X6_isText 1 := ⟨⟨jBG_of 972 (by decide +kernel) (by decide +kernel), jBG_of 95 (by decide +kernel) (by decide +kernel), by decide +kernel, by decide +kernel, by decide +kernel⟩, jBG_of 971 (by decide +kernel) (by decide +kernel)⟩
set_option maxRecDepth 100000 in
theorem fl_RX6_31 : jFL RX6 31 6 9 := ⟨RX6, TX6, 28, rfl, by decide, Or.inl (jBG_of 839 (by decide +kernel) (by decide +kernel))⟩
set_option maxRecDepth 100000 in
theorem fl_RX6_34 : jFL RX6 34 6 10 := ⟨RX6, TX6, 28, rfl, by decide, Or.inl (jBG_of 840 (by decide +kernel) (by decide +kernel))⟩
set_option maxRecDepth 100000 in
theorem fl_RX6_103 : jFL RX6 103 6 16 := ⟨RX6, TX6, 28, rfl, by decide, Or.inl (jBG_of 846 (by decide +kernel) (by decide +kernel))⟩
set_option maxRecDepth 100000 in
theorem fl_RX6_106 : jFL RX6 106 6 17 := ⟨RX6, TX6, 28, rfl, by decide, Or.inl (jBG_of 847 (by decide +kernel) (by decide +kernel))⟩
set_option maxRecDepth 100000 in
theorem fl_RX6_109 : jFL RX6 109 6 18 := ⟨RX6, TX6, 28, rfl, by decide, Or.inl (jBG_of 848 (by decide +kernel) (by decide +kernel))⟩
set_option maxRecDepth 100000 in
theorem ml_RX6_112 : Cond.methodLink RX6 112 yX6_here ∈ jBG := jBG_of 990 (by decide +kernel) (by decide +kernel)
set_option maxRecDepth 100000 in
theorem yv_X6_here : jYV md_X6_here 0 6 := ⟨⟨jBG_of 993 (by decide +kernel) (by decide +kernel), jBG_of 95 (by decide +kernel) (by decide +kernel), by decide +kernel, by decide +kernel, by decide +kernel⟩, jBG_of 992 (by decide +kernel) (by decide +kernel), jBG_of 45 (by decide +kernel) (by decide +kernel), TX6, 28, rfl⟩
set_option maxRecDepth 100000 in
theorem fp_RX6_106 (nm : String) : jFP RX6 nm 106 6 17 .int := ⟨RX6, TX6, 28, rfl, by decide, by decide +kernel, Or.inl ⟨rfl, Or.inl (jBG_of 847 (by decide +kernel) (by decide +kernel))⟩⟩
set_option maxRecDepth 100000 in
theorem ml_RX6_116 : Cond.methodLink RX6 116 yX6_kindOfLetter ∈ jBG := jBG_of 1009 (by decide +kernel) (by decide +kernel)
set_option maxRecDepth 100000 in
theorem ys_X6_kindOfLetter : jYS md_X6_kindOfLetter 1 := ⟨⟨jBG_of 1011 (by decide +kernel) (by decide +kernel), jBG_of 95 (by decide +kernel) (by decide +kernel), by decide +kernel, by decide +kernel, by decide +kernel⟩, jBG_of 1010 (by decide +kernel) (by decide +kernel)⟩
end
section
set_option maxRecDepth 100000 in
theorem fl_RX6_119 : jFL RX6 119 6 20 := ⟨RX6, TX6, 28, rfl, by decide, Or.inl (jBG_of 850 (by decide +kernel) (by decide +kernel))⟩
set_option maxRecDepth 100000 in
theorem fl_RX6_122 : jFL RX6 122 6 22 := ⟨RX6, TX6, 28, rfl, by decide, Or.inl (jBG_of 852 (by decide +kernel) (by decide +kernel))⟩
set_option maxRecDepth 100000 in
theorem ml_RX6_125 : Cond.methodLink RX6 125 yX6_figure ∈ jBG := jBG_of 998 (by decide +kernel) (by decide +kernel)
set_option maxRecDepth 100000 in
theorem yv_X6_figure : jYV md_X6_figure 2 6 := ⟨⟨jBG_of 1001 (by decide +kernel) (by decide +kernel), jBG_of 95 (by decide +kernel) (by decide +kernel), by decide +kernel, by decide +kernel, by decide +kernel⟩, jBG_of 1000 (by decide +kernel) (by decide +kernel), jBG_of 47 (by decide +kernel) (by decide +kernel), TX6, 28, rfl⟩
set_option maxRecDepth 100000 in
theorem fl_RX6_44 : jFL RX6 44 6 19 := ⟨RX6, TX6, 28, rfl, by decide, Or.inl (jBG_of 849 (by decide +kernel) (by decide +kernel))⟩
set_option maxRecDepth 100000 in
theorem fp_RX6_119 (nm : String) : jFP RX6 nm 119 6 20 .int := ⟨RX6, TX6, 28, rfl, by decide, by decide +kernel, Or.inl ⟨rfl, Or.inl (jBG_of 850 (by decide +kernel) (by decide +kernel))⟩⟩
set_option maxRecDepth 100000 in
theorem fl_RX6_47 : jFL RX6 47 6 21 := ⟨RX6, TX6, 28, rfl, by decide, Or.inl (jBG_of 851 (by decide +kernel) (by decide +kernel))⟩
set_option maxRecDepth 100000 in
theorem ml_RX6_128 : Cond.methodLink RX6 128 yX6_has ∈ jBG := jBG_of 1002 (by decide +kernel) (by decide +kernel)
set_option maxRecDepth 100000 in
theorem ys_X6_has : jYS md_X6_has 2 := ⟨⟨jBG_of 1004 (by decide +kernel) (by decide +kernel), jBG_of 95 (by decide +kernel) (by decide +kernel), by decide +kernel, by decide +kernel, by decide +kernel⟩, jBG_of 1003 (by decide +kernel) (by decide +kernel)⟩
set_option maxRecDepth 100000 in
theorem fp_RX6_122 (nm : String) : jFP RX6 nm 122 6 22 .int := ⟨RX6, TX6, 28, rfl, by decide, by decide +kernel, Or.inl ⟨rfl, Or.inl (jBG_of 852 (by decide +kernel) (by decide +kernel))⟩⟩
set_option maxRecDepth 100000 in
theorem fp_RX6_103 (nm : String) : jFP RX6 nm 103 6 16 .int := ⟨RX6, TX6, 28, rfl, by decide, by decide +kernel, Or.inl ⟨rfl, Or.inl (jBG_of 846 (by decide +kernel) (by decide +kernel))⟩⟩
set_option maxRecDepth 100000 in
theorem fp_RX6_109 (nm : String) : jFP RX6 nm 109 6 18 .int := ⟨RX6, TX6, 28, rfl, by decide, by decide +kernel, Or.inl ⟨rfl, Or.inl (jBG_of 848 (by decide +kernel) (by decide +kernel))⟩⟩
set_option maxRecDepth 100000 in
theorem ml_RX6_132 : Cond.methodLink RX6 132 yX6_skip ∈ jBG := jBG_of 986 (by decide +kernel) (by decide +kernel)
set_option maxRecDepth 100000 in
theorem yv_X6_skip : jYV md_X6_skip 0 6 := ⟨⟨jBG_of 989 (by decide +kernel) (by decide +kernel), jBG_of 95 (by decide +kernel) (by decide +kernel), by decide +kernel, by decide +kernel, by decide +kernel⟩, jBG_of 988 (by decide +kernel) (by decide +kernel), jBG_of 44 (by decide +kernel) (by decide +kernel), TX6, 28, rfl⟩
set_option maxRecDepth 100000 in
theorem ml_RX6_139 : Cond.methodLink RX6 139 yX6_readsPerson ∈ jBG := jBG_of 1005 (by decide +kernel) (by decide +kernel)
set_option maxRecDepth 100000 in
theorem yv_X6_readsPerson : jYV md_X6_readsPerson 0 6 := ⟨⟨jBG_of 1008 (by decide +kernel) (by decide +kernel), jBG_of 95 (by decide +kernel) (by decide +kernel), by decide +kernel, by decide +kernel, by decide +kernel⟩, jBG_of 1007 (by decide +kernel) (by decide +kernel), jBG_of 48 (by decide +kernel) (by decide +kernel), TX6, 28, rfl⟩
set_option maxRecDepth 100000 in
theorem ml_RX6_135 : Cond.methodLink RX6 135 yX6_readsLove ∈ jBG := jBG_of 994 (by decide +kernel) (by decide +kernel)
set_option maxRecDepth 100000 in
theorem yv_X6_readsLove : jYV md_X6_readsLove 0 6 := ⟨⟨jBG_of 997 (by decide +kernel) (by decide +kernel), jBG_of 95 (by decide +kernel) (by decide +kernel), by decide +kernel, by decide +kernel, by decide +kernel⟩, jBG_of 996 (by decide +kernel) (by decide +kernel), jBG_of 46 (by decide +kernel) (by decide +kernel), TX6, 28, rfl⟩
set_option maxRecDepth 100000 in
theorem ml_RX6_142 : Cond.methodLink RX6 142 yX6_areVictims ∈ jBG := jBG_of 1012 (by decide +kernel) (by decide +kernel)
set_option maxRecDepth 100000 in
theorem yv_X6_areVictims : jYV md_X6_areVictims 0 6 := ⟨⟨jBG_of 1015 (by decide +kernel) (by decide +kernel), jBG_of 95 (by decide +kernel) (by decide +kernel), by decide +kernel, by decide +kernel, by decide +kernel⟩, jBG_of 1014 (by decide +kernel) (by decide +kernel), jBG_of 49 (by decide +kernel) (by decide +kernel), TX6, 28, rfl⟩
set_option maxRecDepth 100000 in
theorem ml_RX6_145 : Cond.methodLink RX6 145 yX6_faultOf ∈ jBG := jBG_of 982 (by decide +kernel) (by decide +kernel)
set_option maxRecDepth 100000 in
theorem yv_X6_faultOf : jYV md_X6_faultOf 1 6 := ⟨⟨jBG_of 985 (by decide +kernel) (by decide +kernel), jBG_of 95 (by decide +kernel) (by decide +kernel), by decide +kernel, by decide +kernel, by decide +kernel⟩, jBG_of 984 (by decide +kernel) (by decide +kernel), jBG_of 43 (by decide +kernel) (by decide +kernel), TX6, 28, rfl⟩
set_option maxRecDepth 100000 in
theorem fp_RX6_148 (nm : String) : jFP RX6 nm 148 6 1 .int := ⟨RX6, TX6, 28, rfl, by decide, by decide +kernel, Or.inl ⟨rfl, Or.inl (jBG_of 831 (by decide +kernel) (by decide +kernel))⟩⟩
set_option maxRecDepth 100000 in
theorem fp_RX6_151 (nm : String) : jFP RX6 nm 151 6 6 .int := ⟨RX6, TX6, 28, rfl, by decide, by decide +kernel, Or.inl ⟨rfl, Or.inl (jBG_of 836 (by decide +kernel) (by decide +kernel))⟩⟩
set_option maxRecDepth 100000 in
theorem fl_RX6_148 : jFL RX6 148 6 1 := ⟨RX6, TX6, 28, rfl, by decide, Or.inl (jBG_of 831 (by decide +kernel) (by decide +kernel))⟩
set_option maxRecDepth 100000 in
theorem fl_RX6_22 : jFL RX6 22 6 5 := ⟨RX6, TX6, 28, rfl, by decide, Or.inl (jBG_of 835 (by decide +kernel) (by decide +kernel))⟩
set_option maxRecDepth 100000 in
theorem fl_RX6_13 : jFL RX6 13 6 2 := ⟨RX6, TX6, 28, rfl, by decide, Or.inl (jBG_of 832 (by decide +kernel) (by decide +kernel))⟩
set_option maxRecDepth 100000 in
theorem fl_RX6_16 : jFL RX6 16 6 3 := ⟨RX6, TX6, 28, rfl, by decide, Or.inl (jBG_of 833 (by decide +kernel) (by decide +kernel))⟩
set_option maxRecDepth 100000 in
theorem fl_RX6_19 : jFL RX6 19 6 4 := ⟨RX6, TX6, 28, rfl, by decide, Or.inl (jBG_of 834 (by decide +kernel) (by decide +kernel))⟩
set_option maxRecDepth 100000 in
theorem ml_RX6_154 : Cond.methodLink RX6 154 yX6_isPerson ∈ jBG := jBG_of 1024 (by decide +kernel) (by decide +kernel)
set_option maxRecDepth 100000 in
theorem yv_X6_isPerson : jYV md_X6_isPerson 1 6 := ⟨⟨jBG_of 1027 (by decide +kernel) (by decide +kernel), jBG_of 95 (by decide +kernel) (by decide +kernel), by decide +kernel, by decide +kernel, by decide +kernel⟩, jBG_of 1026 (by decide +kernel) (by decide +kernel), jBG_of 50 (by decide +kernel) (by decide +kernel), TX6, 28, rfl⟩
set_option maxRecDepth 100000 in
theorem ml_RX6_157 : Cond.methodLink RX6 157 yX6_victim ∈ jBG := jBG_of 1033 (by decide +kernel) (by decide +kernel)
set_option maxRecDepth 100000 in
theorem yv_X6_victim : jYV md_X6_victim 1 6 := ⟨⟨jBG_of 1036 (by decide +kernel) (by decide +kernel), jBG_of 95 (by decide +kernel) (by decide +kernel), by decide +kernel, by decide +kernel, by decide +kernel⟩, jBG_of 1035 (by decide +kernel) (by decide +kernel), jBG_of 52 (by decide +kernel) (by decide +kernel), TX6, 28, rfl⟩
set_option maxRecDepth 100000 in
theorem sw_X6_plain_6 : decode md_X6_plain.2.1 6 = .ok (.tableswitch 86 1 5 #[34, 86, 52, 43, 61], 34) := by decide +kernel
set_option maxRecDepth 100000 in
theorem ml_RX6_160 : Cond.methodLink RX6 160 yX6_plain ∈ jBG := jBG_of 1053 (by decide +kernel) (by decide +kernel)
set_option maxRecDepth 100000 in
theorem yv_X6_plain : jYV md_X6_plain 1 6 := ⟨⟨jBG_of 1056 (by decide +kernel) (by decide +kernel), jBG_of 95 (by decide +kernel) (by decide +kernel), by decide +kernel, by decide +kernel, by decide +kernel⟩, jBG_of 1055 (by decide +kernel) (by decide +kernel), jBG_of 56 (by decide +kernel) (by decide +kernel), TX6, 28, rfl⟩
set_option maxRecDepth 100000 in
theorem ml_RX6_163 : Cond.methodLink RX6 163 yX6_foe ∈ jBG := jBG_of 1037 (by decide +kernel) (by decide +kernel)
set_option maxRecDepth 100000 in
theorem yv_X6_foe : jYV md_X6_foe 1 6 := ⟨⟨jBG_of 1040 (by decide +kernel) (by decide +kernel), jBG_of 95 (by decide +kernel) (by decide +kernel), by decide +kernel, by decide +kernel, by decide +kernel⟩, jBG_of 1039 (by decide +kernel) (by decide +kernel), jBG_of 53 (by decide +kernel) (by decide +kernel), TX6, 28, rfl⟩
set_option maxRecDepth 100000 in
theorem ml_RX6_166 : Cond.methodLink RX6 166 yX6_strengthOf ∈ jBG := jBG_of 1061 (by decide +kernel) (by decide +kernel)
set_option maxRecDepth 100000 in
theorem yv_X6_strengthOf : jYV md_X6_strengthOf 2 6 := ⟨⟨jBG_of 1064 (by decide +kernel) (by decide +kernel), jBG_of 95 (by decide +kernel) (by decide +kernel), by decide +kernel, by decide +kernel, by decide +kernel⟩, jBG_of 1063 (by decide +kernel) (by decide +kernel), jBG_of 58 (by decide +kernel) (by decide +kernel), TX6, 28, rfl⟩
set_option maxRecDepth 100000 in
theorem sw_X6_toldOf_1 : decode md_X6_toldOf.2.1 1 = .ok (.tableswitch 114 0 7 #[47, 54, 61, 68, 74, 80, 90, 100], 47) := by decide +kernel
set_option maxRecDepth 100000 in
theorem ml_RX6_169 : Cond.methodLink RX6 169 yX6_isReached ∈ jBG := jBG_of 1041 (by decide +kernel) (by decide +kernel)
set_option maxRecDepth 100000 in
theorem yv_X6_isReached : jYV md_X6_isReached 1 6 := ⟨⟨jBG_of 1044 (by decide +kernel) (by decide +kernel), jBG_of 95 (by decide +kernel) (by decide +kernel), by decide +kernel, by decide +kernel, by decide +kernel⟩, jBG_of 1043 (by decide +kernel) (by decide +kernel), jBG_of 54 (by decide +kernel) (by decide +kernel), TX6, 28, rfl⟩
set_option maxRecDepth 100000 in
theorem lc_RX6_172 : Cond.constantLong RX6 172 8 ∈ jBG := jBG_of 1028 (by decide +kernel) (by decide +kernel)
set_option maxRecDepth 100000 in
theorem ml_RX6_174 : Cond.methodLink RX6 174 yX6_toldOf ∈ jBG := jBG_of 1029 (by decide +kernel) (by decide +kernel)
set_option maxRecDepth 100000 in
theorem yv_X6_toldOf : jYV md_X6_toldOf 2 6 := ⟨⟨jBG_of 1032 (by decide +kernel) (by decide +kernel), jBG_of 95 (by decide +kernel) (by decide +kernel), by decide +kernel, by decide +kernel, by decide +kernel⟩, jBG_of 1031 (by decide +kernel) (by decide +kernel), jBG_of 51 (by decide +kernel) (by decide +kernel), TX6, 28, rfl⟩
set_option maxRecDepth 100000 in
theorem ml_RX6_177 : Cond.methodLink RX6 177 yX6_isOf ∈ jBG := jBG_of 1049 (by decide +kernel) (by decide +kernel)
set_option maxRecDepth 100000 in
theorem yv_X6_isOf : jYV md_X6_isOf 2 6 := ⟨⟨jBG_of 1052 (by decide +kernel) (by decide +kernel), jBG_of 95 (by decide +kernel) (by decide +kernel), by decide +kernel, by decide +kernel, by decide +kernel⟩, jBG_of 1051 (by decide +kernel) (by decide +kernel), jBG_of 55 (by decide +kernel) (by decide +kernel), TX6, 28, rfl⟩
set_option maxRecDepth 100000 in
theorem sw_X6_mark_38 : decode md_X6_mark.2.1 38 = .ok (.tableswitch 58 1 4 #[30, 36, 42, 52], 30) := by decide +kernel
set_option maxRecDepth 100000 in
theorem ml_RX6_180 : Cond.methodLink RX6 180 yX6_saved ∈ jBG := jBG_of 1057 (by decide +kernel) (by decide +kernel)
set_option maxRecDepth 100000 in
theorem yv_X6_saved : jYV md_X6_saved 1 6 := ⟨⟨jBG_of 1060 (by decide +kernel) (by decide +kernel), jBG_of 95 (by decide +kernel) (by decide +kernel), by decide +kernel, by decide +kernel, by decide +kernel⟩, jBG_of 1059 (by decide +kernel) (by decide +kernel), jBG_of 57 (by decide +kernel) (by decide +kernel), TX6, 28, rfl⟩
set_option maxRecDepth 100000 in
theorem ml_RX6_183 : Cond.methodLink RX6 183 yX6_bits ∈ jBG := jBG_of 1065 (by decide +kernel) (by decide +kernel)
set_option maxRecDepth 100000 in
theorem ys_X6_bits : jYS md_X6_bits 1 := ⟨⟨jBG_of 1067 (by decide +kernel) (by decide +kernel), jBG_of 95 (by decide +kernel) (by decide +kernel), by decide +kernel, by decide +kernel, by decide +kernel⟩, jBG_of 1066 (by decide +kernel) (by decide +kernel)⟩
set_option maxRecDepth 100000 in
theorem ml_RX6_186 : Cond.methodLink RX6 186 yX6_weeksForNine ∈ jBG := jBG_of 1068 (by decide +kernel) (by decide +kernel)
set_option maxRecDepth 100000 in
theorem yv_X6_weeksForNine : jYV md_X6_weeksForNine 1 6 := ⟨⟨jBG_of 1071 (by decide +kernel) (by decide +kernel), jBG_of 95 (by decide +kernel) (by decide +kernel), by decide +kernel, by decide +kernel, by decide +kernel⟩, jBG_of 1070 (by decide +kernel) (by decide +kernel), jBG_of 59 (by decide +kernel) (by decide +kernel), TX6, 28, rfl⟩
set_option maxRecDepth 100000 in
theorem ml_RX6_189 : Cond.methodLink RX6 189 yX6_owes ∈ jBG := jBG_of 1072 (by decide +kernel) (by decide +kernel)
set_option maxRecDepth 100000 in
theorem yv_X6_owes : jYV md_X6_owes 2 6 := ⟨⟨jBG_of 1075 (by decide +kernel) (by decide +kernel), jBG_of 95 (by decide +kernel) (by decide +kernel), by decide +kernel, by decide +kernel, by decide +kernel⟩, jBG_of 1074 (by decide +kernel) (by decide +kernel), jBG_of 60 (by decide +kernel) (by decide +kernel), TX6, 28, rfl⟩
set_option maxRecDepth 100000 in
theorem ml_RX6_192 : Cond.methodLink RX6 192 yX6_areTwo ∈ jBG := jBG_of 1080 (by decide +kernel) (by decide +kernel)
set_option maxRecDepth 100000 in
theorem yv_X6_areTwo : jYV md_X6_areTwo 2 6 := ⟨⟨jBG_of 1083 (by decide +kernel) (by decide +kernel), jBG_of 95 (by decide +kernel) (by decide +kernel), by decide +kernel, by decide +kernel, by decide +kernel⟩, jBG_of 1082 (by decide +kernel) (by decide +kernel), jBG_of 61 (by decide +kernel) (by decide +kernel), TX6, 28, rfl⟩
set_option maxRecDepth 100000 in
theorem ml_RX6_195 : Cond.methodLink RX6 195 yX6_keepPast ∈ jBG := jBG_of 1097 (by decide +kernel) (by decide +kernel)
set_option maxRecDepth 100000 in
theorem yv_X6_keepPast : jYV md_X6_keepPast 0 6 := ⟨⟨jBG_of 1100 (by decide +kernel) (by decide +kernel), jBG_of 95 (by decide +kernel) (by decide +kernel), by decide +kernel, by decide +kernel, by decide +kernel⟩, jBG_of 1099 (by decide +kernel) (by decide +kernel), jBG_of 64 (by decide +kernel) (by decide +kernel), TX6, 28, rfl⟩
set_option maxRecDepth 100000 in
theorem fl_RX6_50 : jFL RX6 50 6 23 := ⟨RX6, TX6, 28, rfl, by decide, Or.inl (jBG_of 853 (by decide +kernel) (by decide +kernel))⟩
set_option maxRecDepth 100000 in
theorem lc_RX6_198 : Cond.constantLong RX6 198 2 ∈ jBG := jBG_of 1092 (by decide +kernel) (by decide +kernel)
set_option maxRecDepth 100000 in
theorem ml_RX6_200 : Cond.methodLink RX6 200 yX6_isWeek ∈ jBG := jBG_of 1088 (by decide +kernel) (by decide +kernel)
set_option maxRecDepth 100000 in
theorem yv_X6_isWeek : jYV md_X6_isWeek 1 6 := ⟨⟨jBG_of 1091 (by decide +kernel) (by decide +kernel), jBG_of 95 (by decide +kernel) (by decide +kernel), by decide +kernel, by decide +kernel, by decide +kernel⟩, jBG_of 1090 (by decide +kernel) (by decide +kernel), jBG_of 62 (by decide +kernel) (by decide +kernel), TX6, 28, rfl⟩
set_option maxRecDepth 100000 in
theorem ml_RX6_203 : Cond.methodLink RX6 203 yX6_pass ∈ jBG := jBG_of 1093 (by decide +kernel) (by decide +kernel)
set_option maxRecDepth 100000 in
theorem yv_X6_pass : jYV md_X6_pass 0 6 := ⟨⟨jBG_of 1096 (by decide +kernel) (by decide +kernel), jBG_of 95 (by decide +kernel) (by decide +kernel), by decide +kernel, by decide +kernel, by decide +kernel⟩, jBG_of 1095 (by decide +kernel) (by decide +kernel), jBG_of 63 (by decide +kernel) (by decide +kernel), TX6, 28, rfl⟩
set_option maxRecDepth 100000 in
theorem ml_RX6_206 : Cond.methodLink RX6 206 yX6_change ∈ jBG := jBG_of 1105 (by decide +kernel) (by decide +kernel)
set_option maxRecDepth 100000 in
theorem yv_X6_change : jYV md_X6_change 2 6 := ⟨⟨jBG_of 1108 (by decide +kernel) (by decide +kernel), jBG_of 95 (by decide +kernel) (by decide +kernel), by decide +kernel, by decide +kernel, by decide +kernel⟩, jBG_of 1107 (by decide +kernel) (by decide +kernel), jBG_of 65 (by decide +kernel) (by decide +kernel), TX6, 28, rfl⟩
set_option maxRecDepth 100000 in
theorem ml_RX6_209 : Cond.methodLink RX6 209 yX6_copyTown ∈ jBG := jBG_of 1117 (by decide +kernel) (by decide +kernel)
set_option maxRecDepth 100000 in
theorem yv_X6_copyTown : jYV md_X6_copyTown 2 6 := ⟨⟨jBG_of 1120 (by decide +kernel) (by decide +kernel), jBG_of 95 (by decide +kernel) (by decide +kernel), by decide +kernel, by decide +kernel, by decide +kernel⟩, jBG_of 1119 (by decide +kernel) (by decide +kernel), jBG_of 66 (by decide +kernel) (by decide +kernel), TX6, 28, rfl⟩
set_option maxRecDepth 100000 in
theorem ml_RX6_212 : Cond.methodLink RX6 212 yX6_ringOf ∈ jBG := jBG_of 1129 (by decide +kernel) (by decide +kernel)
set_option maxRecDepth 100000 in
theorem yv_X6_ringOf : jYV md_X6_ringOf 1 6 := ⟨⟨jBG_of 1132 (by decide +kernel) (by decide +kernel), jBG_of 95 (by decide +kernel) (by decide +kernel), by decide +kernel, by decide +kernel, by decide +kernel⟩, jBG_of 1131 (by decide +kernel) (by decide +kernel), jBG_of 67 (by decide +kernel) (by decide +kernel), TX6, 28, rfl⟩
set_option maxRecDepth 100000 in
theorem fl_RX6_66 : jFL RX6 66 6 11 := ⟨RX6, TX6, 28, rfl, by decide, Or.inl (jBG_of 841 (by decide +kernel) (by decide +kernel))⟩
set_option maxRecDepth 100000 in
theorem ml_RX6_215 : Cond.methodLink RX6 215 yX6_against ∈ jBG := jBG_of 1141 (by decide +kernel) (by decide +kernel)
set_option maxRecDepth 100000 in
theorem yv_X6_against : jYV md_X6_against 1 6 := ⟨⟨jBG_of 1144 (by decide +kernel) (by decide +kernel), jBG_of 95 (by decide +kernel) (by decide +kernel), by decide +kernel, by decide +kernel, by decide +kernel⟩, jBG_of 1143 (by decide +kernel) (by decide +kernel), jBG_of 68 (by decide +kernel) (by decide +kernel), TX6, 28, rfl⟩
set_option maxRecDepth 100000 in
theorem lc_RX6_218 : Cond.constantLong RX6 218 9 ∈ jBG := jBG_of 1149 (by decide +kernel) (by decide +kernel)
set_option maxRecDepth 100000 in
theorem ml_RX6_220 : Cond.methodLink RX6 220 yX6_weeksOf ∈ jBG := jBG_of 1150 (by decide +kernel) (by decide +kernel)
set_option maxRecDepth 100000 in
theorem yv_X6_weeksOf : jYV md_X6_weeksOf 3 6 := ⟨⟨jBG_of 1153 (by decide +kernel) (by decide +kernel), jBG_of 95 (by decide +kernel) (by decide +kernel), by decide +kernel, by decide +kernel, by decide +kernel⟩, jBG_of 1152 (by decide +kernel) (by decide +kernel), jBG_of 69 (by decide +kernel) (by decide +kernel), TX6, 28, rfl⟩
set_option maxRecDepth 100000 in
theorem lc_RX6_224 : Cond.constantLong RX6 224 30 ∈ jBG := jBG_of 1158 (by decide +kernel) (by decide +kernel)
set_option maxRecDepth 100000 in
theorem ml_RX6_226 : Cond.methodLink RX6 226 yX6_isReachedBy ∈ jBG := jBG_of 1163 (by decide +kernel) (by decide +kernel)
set_option maxRecDepth 100000 in
theorem yv_X6_isReachedBy : jYV md_X6_isReachedBy 3 6 := ⟨⟨jBG_of 1166 (by decide +kernel) (by decide +kernel), jBG_of 95 (by decide +kernel) (by decide +kernel), by decide +kernel, by decide +kernel, by decide +kernel⟩, jBG_of 1165 (by decide +kernel) (by decide +kernel), jBG_of 70 (by decide +kernel) (by decide +kernel), TX6, 28, rfl⟩
set_option maxRecDepth 100000 in
theorem ml_RX6_229 : Cond.methodLink RX6 229 yX6_wish ∈ jBG := jBG_of 1171 (by decide +kernel) (by decide +kernel)
set_option maxRecDepth 100000 in
theorem yv_X6_wish : jYV md_X6_wish 2 6 := ⟨⟨jBG_of 1174 (by decide +kernel) (by decide +kernel), jBG_of 95 (by decide +kernel) (by decide +kernel), by decide +kernel, by decide +kernel, by decide +kernel⟩, jBG_of 1173 (by decide +kernel) (by decide +kernel), jBG_of 71 (by decide +kernel) (by decide +kernel), TX6, 28, rfl⟩
set_option maxRecDepth 100000 in
theorem fl_RX6_53 : jFL RX6 53 6 24 := ⟨RX6, TX6, 28, rfl, by decide, Or.inl (jBG_of 854 (by decide +kernel) (by decide +kernel))⟩
set_option maxRecDepth 100000 in
theorem ml_RX6_232 : Cond.methodLink RX6 232 yX6_victimsNow ∈ jBG := jBG_of 1179 (by decide +kernel) (by decide +kernel)
set_option maxRecDepth 100000 in
theorem yv_X6_victimsNow : jYV md_X6_victimsNow 0 6 := ⟨⟨jBG_of 1182 (by decide +kernel) (by decide +kernel), jBG_of 95 (by decide +kernel) (by decide +kernel), by decide +kernel, by decide +kernel, by decide +kernel⟩, jBG_of 1181 (by decide +kernel) (by decide +kernel), jBG_of 72 (by decide +kernel) (by decide +kernel), TX6, 28, rfl⟩
set_option maxRecDepth 100000 in
theorem ml_RX6_235 : Cond.methodLink RX6 235 yX6_leftOf ∈ jBG := jBG_of 1183 (by decide +kernel) (by decide +kernel)
set_option maxRecDepth 100000 in
theorem yv_X6_leftOf : jYV md_X6_leftOf 1 6 := ⟨⟨jBG_of 1186 (by decide +kernel) (by decide +kernel), jBG_of 95 (by decide +kernel) (by decide +kernel), by decide +kernel, by decide +kernel, by decide +kernel⟩, jBG_of 1185 (by decide +kernel) (by decide +kernel), jBG_of 73 (by decide +kernel) (by decide +kernel), TX6, 28, rfl⟩
set_option maxRecDepth 100000 in
theorem ml_RX6_241 : Cond.methodLink RX6 241 yX6_nextTried ∈ jBG := jBG_of 1191 (by decide +kernel) (by decide +kernel)
set_option maxRecDepth 100000 in
theorem yv_X6_nextTried : jYV md_X6_nextTried 0 6 := ⟨⟨jBG_of 1194 (by decide +kernel) (by decide +kernel), jBG_of 95 (by decide +kernel) (by decide +kernel), by decide +kernel, by decide +kernel, by decide +kernel⟩, jBG_of 1193 (by decide +kernel) (by decide +kernel), jBG_of 75 (by decide +kernel) (by decide +kernel), TX6, 28, rfl⟩
set_option maxRecDepth 100000 in
theorem ml_RX6_238 : Cond.methodLink RX6 238 yX6_strengthsTried ∈ jBG := jBG_of 1187 (by decide +kernel) (by decide +kernel)
set_option maxRecDepth 100000 in
theorem yv_X6_strengthsTried : jYV md_X6_strengthsTried 0 6 := ⟨⟨jBG_of 1190 (by decide +kernel) (by decide +kernel), jBG_of 95 (by decide +kernel) (by decide +kernel), by decide +kernel, by decide +kernel, by decide +kernel⟩, jBG_of 1189 (by decide +kernel) (by decide +kernel), jBG_of 74 (by decide +kernel) (by decide +kernel), TX6, 28, rfl⟩
set_option maxRecDepth 100000 in
theorem ml_RX6_244 : Cond.methodLink RX6 244 yX6_isMap ∈ jBG := jBG_of 1199 (by decide +kernel) (by decide +kernel)
set_option maxRecDepth 100000 in
theorem yv_X6_isMap : jYV md_X6_isMap 1 6 := ⟨⟨jBG_of 1202 (by decide +kernel) (by decide +kernel), jBG_of 95 (by decide +kernel) (by decide +kernel), by decide +kernel, by decide +kernel, by decide +kernel⟩, jBG_of 1201 (by decide +kernel) (by decide +kernel), jBG_of 76 (by decide +kernel) (by decide +kernel), TX6, 28, rfl⟩
set_option maxRecDepth 100000 in
theorem fp_RX6_247 (nm : String) : jFP RX6 nm 247 6 26 .int := ⟨RX6, TX6, 28, rfl, by decide, by decide +kernel, Or.inl ⟨rfl, Or.inl (jBG_of 856 (by decide +kernel) (by decide +kernel))⟩⟩
set_option maxRecDepth 100000 in
theorem fl_RX6_56 : jFL RX6 56 6 25 := ⟨RX6, TX6, 28, rfl, by decide, Or.inl (jBG_of 855 (by decide +kernel) (by decide +kernel))⟩
set_option maxRecDepth 100000 in
theorem fl_RX6_247 : jFL RX6 247 6 26 := ⟨RX6, TX6, 28, rfl, by decide, Or.inl (jBG_of 856 (by decide +kernel) (by decide +kernel))⟩
set_option maxRecDepth 100000 in
theorem fp_RX6_250 (nm : String) : jFP RX6 nm 250 6 12 .long := ⟨RX6, TX6, 28, rfl, by decide, by decide +kernel, Or.inl ⟨rfl, Or.inl (jBG_of 842 (by decide +kernel) (by decide +kernel))⟩⟩
set_option maxRecDepth 100000 in
theorem ml_RX6_253 : Cond.methodLink RX6 253 yX6_layMaps ∈ jBG := jBG_of 1207 (by decide +kernel) (by decide +kernel)
set_option maxRecDepth 100000 in
theorem yv_X6_layMaps : jYV md_X6_layMaps 1 6 := ⟨⟨jBG_of 1210 (by decide +kernel) (by decide +kernel), jBG_of 95 (by decide +kernel) (by decide +kernel), by decide +kernel, by decide +kernel, by decide +kernel⟩, jBG_of 1209 (by decide +kernel) (by decide +kernel), jBG_of 77 (by decide +kernel) (by decide +kernel), TX6, 28, rfl⟩
set_option maxRecDepth 100000 in
theorem ml_RX6_257 : Cond.methodLink RX6 257 yX6_tellMany ∈ jBG := jBG_of 1211 (by decide +kernel) (by decide +kernel)
set_option maxRecDepth 100000 in
theorem yv_X6_tellMany : jYV md_X6_tellMany 1 6 := ⟨⟨jBG_of 1214 (by decide +kernel) (by decide +kernel), jBG_of 95 (by decide +kernel) (by decide +kernel), by decide +kernel, by decide +kernel, by decide +kernel⟩, jBG_of 1213 (by decide +kernel) (by decide +kernel), jBG_of 78 (by decide +kernel) (by decide +kernel), TX6, 28, rfl⟩
set_option maxRecDepth 100000 in
theorem ml_RX6_260 : Cond.methodLink RX6 260 yX6_of ∈ jBG := jBG_of 1219 (by decide +kernel) (by decide +kernel)
set_option maxRecDepth 100000 in
theorem ys_X6_of : jYS md_X6_of 2 := ⟨⟨jBG_of 1221 (by decide +kernel) (by decide +kernel), jBG_of 95 (by decide +kernel) (by decide +kernel), by decide +kernel, by decide +kernel, by decide +kernel⟩, jBG_of 1220 (by decide +kernel) (by decide +kernel)⟩
set_option maxRecDepth 100000 in
theorem ml_RX6_263 : Cond.methodLink RX6 263 yX6_tellParts ∈ jBG := jBG_of 1222 (by decide +kernel) (by decide +kernel)
set_option maxRecDepth 100000 in
theorem yv_X6_tellParts : jYV md_X6_tellParts 2 6 := ⟨⟨jBG_of 1225 (by decide +kernel) (by decide +kernel), jBG_of 95 (by decide +kernel) (by decide +kernel), by decide +kernel, by decide +kernel, by decide +kernel⟩, jBG_of 1224 (by decide +kernel) (by decide +kernel), jBG_of 79 (by decide +kernel) (by decide +kernel), TX6, 28, rfl⟩
set_option maxRecDepth 100000 in
theorem ml_RX6_267 : Cond.methodLink RX6 267 yX6_victimsOf ∈ jBG := jBG_of 1238 (by decide +kernel) (by decide +kernel)
set_option maxRecDepth 100000 in
theorem yv_X6_victimsOf : jYV md_X6_victimsOf 2 6 := ⟨⟨jBG_of 1241 (by decide +kernel) (by decide +kernel), jBG_of 95 (by decide +kernel) (by decide +kernel), by decide +kernel, by decide +kernel, by decide +kernel⟩, jBG_of 1240 (by decide +kernel) (by decide +kernel), jBG_of 81 (by decide +kernel) (by decide +kernel), TX6, 28, rfl⟩
set_option maxRecDepth 100000 in
theorem ml_RX6_270 : Cond.methodLink RX6 270 yX6_layFits ∈ jBG := jBG_of 1234 (by decide +kernel) (by decide +kernel)
set_option maxRecDepth 100000 in
theorem yv_X6_layFits : jYV md_X6_layFits 1 6 := ⟨⟨jBG_of 1237 (by decide +kernel) (by decide +kernel), jBG_of 95 (by decide +kernel) (by decide +kernel), by decide +kernel, by decide +kernel, by decide +kernel⟩, jBG_of 1236 (by decide +kernel) (by decide +kernel), jBG_of 80 (by decide +kernel) (by decide +kernel), TX6, 28, rfl⟩
set_option maxRecDepth 100000 in
theorem fl_RX6_59 : jFL RX6 59 6 27 := ⟨RX6, TX6, 28, rfl, by decide, Or.inl (jBG_of 857 (by decide +kernel) (by decide +kernel))⟩
set_option maxRecDepth 100000 in
theorem ml_RX6_273 : Cond.methodLink RX6 273 yX6_mostLeft ∈ jBG := jBG_of 1250 (by decide +kernel) (by decide +kernel)
set_option maxRecDepth 100000 in
theorem yv_X6_mostLeft : jYV md_X6_mostLeft 1 6 := ⟨⟨jBG_of 1253 (by decide +kernel) (by decide +kernel), jBG_of 95 (by decide +kernel) (by decide +kernel), by decide +kernel, by decide +kernel, by decide +kernel⟩, jBG_of 1252 (by decide +kernel) (by decide +kernel), jBG_of 82 (by decide +kernel) (by decide +kernel), TX6, 28, rfl⟩
set_option maxRecDepth 100000 in
theorem lc_RX6_276 : Cond.constantLong RX6 276 20 ∈ jBG := jBG_of 1258 (by decide +kernel) (by decide +kernel)
set_option maxRecDepth 100000 in
theorem lc_RX6_278 : Cond.constantLong RX6 278 2147483646 ∈ jBG := jBG_of 1259 (by decide +kernel) (by decide +kernel)
set_option maxRecDepth 100000 in
theorem lc_RX6_280 : Cond.constantLong RX6 280 48271 ∈ jBG := jBG_of 1260 (by decide +kernel) (by decide +kernel)
set_option maxRecDepth 100000 in
theorem lc_RX6_282 : Cond.constantLong RX6 282 2147483647 ∈ jBG := jBG_of 1261 (by decide +kernel) (by decide +kernel)
set_option maxRecDepth 100000 in
theorem lc_RX6_284 : Cond.constantLong RX6 284 4 ∈ jBG := jBG_of 1262 (by decide +kernel) (by decide +kernel)
set_option maxRecDepth 100000 in
theorem fl_RX6_250 : jFL RX6 250 6 12 := ⟨RX6, TX6, 28, rfl, by decide, Or.inl (jBG_of 842 (by decide +kernel) (by decide +kernel))⟩
set_option maxRecDepth 100000 in
theorem fl_RX6_37 : jFL RX6 37 6 13 := ⟨RX6, TX6, 28, rfl, by decide, Or.inl (jBG_of 843 (by decide +kernel) (by decide +kernel))⟩
set_option maxRecDepth 100000 in
theorem sw_X6_countOf_1 : decode md_X6_countOf.2.1 1 = .ok (.tableswitch 91 0 6 #[43, 48, 56, 61, 68, 79, 86], 43) := by decide +kernel
set_option maxRecDepth 100000 in
theorem fl_RX6_151 : jFL RX6 151 6 6 := ⟨RX6, TX6, 28, rfl, by decide, Or.inl (jBG_of 836 (by decide +kernel) (by decide +kernel))⟩
set_option maxRecDepth 100000 in
theorem ml_RX6_286 : Cond.methodLink RX6 286 yX6_sumFrom ∈ jBG := jBG_of 1283 (by decide +kernel) (by decide +kernel)
set_option maxRecDepth 100000 in
theorem yv_X6_sumFrom : jYV md_X6_sumFrom 1 6 := ⟨⟨jBG_of 1286 (by decide +kernel) (by decide +kernel), jBG_of 95 (by decide +kernel) (by decide +kernel), by decide +kernel, by decide +kernel, by decide +kernel⟩, jBG_of 1285 (by decide +kernel) (by decide +kernel), jBG_of 84 (by decide +kernel) (by decide +kernel), TX6, 28, rfl⟩
set_option maxRecDepth 100000 in
theorem ml_RX6_289 : Cond.methodLink RX6 289 yX6_zealots ∈ jBG := jBG_of 1287 (by decide +kernel) (by decide +kernel)
set_option maxRecDepth 100000 in
theorem yv_X6_zealots : jYV md_X6_zealots 0 6 := ⟨⟨jBG_of 1290 (by decide +kernel) (by decide +kernel), jBG_of 95 (by decide +kernel) (by decide +kernel), by decide +kernel, by decide +kernel, by decide +kernel⟩, jBG_of 1289 (by decide +kernel) (by decide +kernel), jBG_of 85 (by decide +kernel) (by decide +kernel), TX6, 28, rfl⟩
set_option maxRecDepth 100000 in
theorem ml_RX6_292 : Cond.methodLink RX6 292 yX6_thereOf ∈ jBG := jBG_of 1291 (by decide +kernel) (by decide +kernel)
set_option maxRecDepth 100000 in
theorem yv_X6_thereOf : jYV md_X6_thereOf 1 6 := ⟨⟨jBG_of 1294 (by decide +kernel) (by decide +kernel), jBG_of 95 (by decide +kernel) (by decide +kernel), by decide +kernel, by decide +kernel, by decide +kernel⟩, jBG_of 1293 (by decide +kernel) (by decide +kernel), jBG_of 86 (by decide +kernel) (by decide +kernel), TX6, 28, rfl⟩
set_option maxRecDepth 100000 in
theorem ml_RX6_295 : Cond.methodLink RX6 295 yX6_countOf ∈ jBG := jBG_of 1279 (by decide +kernel) (by decide +kernel)
set_option maxRecDepth 100000 in
theorem yv_X6_countOf : jYV md_X6_countOf 1 6 := ⟨⟨jBG_of 1282 (by decide +kernel) (by decide +kernel), jBG_of 95 (by decide +kernel) (by decide +kernel), by decide +kernel, by decide +kernel, by decide +kernel⟩, jBG_of 1281 (by decide +kernel) (by decide +kernel), jBG_of 83 (by decide +kernel) (by decide +kernel), TX6, 28, rfl⟩
set_option maxRecDepth 100000 in
theorem fl_RX6_62 : jFL RX6 62 6 14 := ⟨RX6, TX6, 28, rfl, by decide, Or.inl (jBG_of 844 (by decide +kernel) (by decide +kernel))⟩
set_option maxRecDepth 100000 in
theorem lc_RX6_298 : Cond.constantLong RX6 298 17 ∈ jBG := jBG_of 1307 (by decide +kernel) (by decide +kernel)
set_option maxRecDepth 100000 in
theorem lc_RX6_300 : Cond.constantLong RX6 300 31 ∈ jBG := jBG_of 1308 (by decide +kernel) (by decide +kernel)
end
section
def f_X0_init (x0 : Nat) (ah : AH) : Option (Unit × AH) :=
  (sF (ah ++ [.inl (List.replicate (Int32.toNatClampNeg 320) 0)]) (some x0) 0 0 (.inr (.inr (.inl (some ah.length))))).bind fun a1 => (sF (a1 ++ [.inl (List.replicate (Int32.toNatClampNeg 6) 0)]) (some x0) 0 1 (.inr (.inr (.inl (some a1.length))))).bind fun a3 => (sF (a3 ++ [.inl (List.replicate (Int32.toNatClampNeg 64) 0)]) (some x0) 0 2 (.inr (.inr (.inl (some a3.length))))).bind fun a5 => some ((), a5)
set_option maxRecDepth 100000 in
set_option maxHeartbeats 4000000 in
theorem k_X0_init {l : Launch} {g : GX} (d : Nat) {Q : jQ} {x0 : Nat} (ah : AH) (out : Unit × AH) (h : f_X0_init x0 ah = some out) (hR : jRetV l g md_X0_init (jRm (d + 1) md_X0_init) Q (3, 390) out.1 out.2) : J l g md_X0_init (jRm (d + 1) md_X0_init) Q 0 [(0, .inr (.inr (.inl (some x0))))] [] ah (0, 0) := by
  unfold f_X0_init at h
  refine J_seg ok_X0_init 0 1 (pc' := 1) (ls' := [(0, .inr (.inr (.inl (some x0))))]) (st' := [.inr (.inr (.inl (some x0)))]) rfl ?_
  refine J_obj (jat ok_X0_init 1 (pc := 1) (i := .invokespecial 3) (n := 3) rfl rfl) mo_RX0_3 oi_i oi_c ⟨by show 1 ≤ d + 1; omega, by show 20 ≤ 64 * (d + 1); omega⟩ (Nat.le_of_ble_eq_true rfl) ?_
  refine J_seg ok_X0_init 2 2 (pc' := 8) (ls' := [(0, .inr (.inr (.inl (some x0))))]) (st' := [.inl 320, .inr (.inr (.inl (some x0)))]) rfl ?_
  refine J_newA (cs' := (1, 320)) (jat ok_X0_init 4 (pc := 8) (i := .newarray .int) (n := 2) rfl rfl) (by decide) (by decide) ac_int (by decide) ⟨Nat.le_of_ble_eq_true rfl, Nat.le_of_ble_eq_true rfl⟩ ?_
  obtain ⟨a1, h2, h⟩ := Option.bind_eq_some_iff.mp h
  refine J_put (jat ok_X0_init 5 (pc := 10) (i := .putfield 9) (n := 3) rfl rfl) fp_RX0_9_i (jPV_arr _ _) h2 ?_
  refine J_seg ok_X0_init 6 2 (pc' := 16) (ls' := [(0, .inr (.inr (.inl (some x0))))]) (st' := [.inl 6, .inr (.inr (.inl (some x0)))]) rfl ?_
  refine J_newA (cs' := (2, 326)) (jat ok_X0_init 8 (pc := 16) (i := .newarray .int) (n := 2) rfl rfl) (by decide) (by decide) ac_int (by decide) ⟨Nat.le_of_ble_eq_true rfl, Nat.le_of_ble_eq_true rfl⟩ ?_
  obtain ⟨a3, h4, h⟩ := Option.bind_eq_some_iff.mp h
  refine J_put (jat ok_X0_init 9 (pc := 18) (i := .putfield 15) (n := 3) rfl rfl) fp_RX0_15_i (jPV_arr _ _) h4 ?_
  refine J_seg ok_X0_init 10 2 (pc' := 24) (ls' := [(0, .inr (.inr (.inl (some x0))))]) (st' := [.inl 64, .inr (.inr (.inl (some x0)))]) rfl ?_
  refine J_newA (cs' := (3, 390)) (jat ok_X0_init 12 (pc := 24) (i := .newarray .int) (n := 2) rfl rfl) (by decide) (by decide) ac_int (by decide) ⟨Nat.le_of_ble_eq_true rfl, Nat.le_of_ble_eq_true rfl⟩ ?_
  obtain ⟨a5, h6, h⟩ := Option.bind_eq_some_iff.mp h
  refine J_put (jat ok_X0_init 13 (pc := 26) (i := .putfield 18) (n := 3) rfl rfl) fp_RX0_18_i (jPV_arr _ _) h6 ?_
  have h := Option.some.inj h
  subst h
  exact hR _ _ (jat ok_X0_init 14 (pc := 29) (i := .return_) (n := 1) rfl rfl)
theorem c_X0_init (l : Launch) (g : GX) (d : Nat) {x0 : Nat} {ah : AH} {q : Unit × AH} (h : f_X0_init x0 ah = some q) : jM l g (d + 1) md_X0_init [.inr (.inr (.inl (some x0)))] ah none q.2 :=
  jM_of (by decide) (Nat.le_of_ble_eq_true rfl) (k_X0_init d ah q h (fun pc ls hd => J_retv hd rfl rfl (Nat.le_refl _) rfl rfl))
def f_J6_bitCount_0f7a4 (x0 : Int32) (ah : AH) : Option (Int32 × AH) :=
  (some (((x0 - (((x0.toUInt32 >>> (Int32.toUInt32 1 &&& Int32.toUInt32 31)).toInt32) &&& 1431655765)) &&& 858993459) + ((((x0 - (((x0.toUInt32 >>> (Int32.toUInt32 1 &&& Int32.toUInt32 31)).toInt32) &&& 1431655765)).toUInt32 >>> (Int32.toUInt32 2 &&& Int32.toUInt32 31)).toInt32) &&& 858993459))).bind fun v1 => (some (((v1 + ((v1.toUInt32 >>> (Int32.toUInt32 4 &&& Int32.toUInt32 31)).toInt32)) &&& 252645135) + ((((v1 + ((v1.toUInt32 >>> (Int32.toUInt32 4 &&& Int32.toUInt32 31)).toInt32)) &&& 252645135).toUInt32 >>> (Int32.toUInt32 8 &&& Int32.toUInt32 31)).toInt32))).bind fun v3 => some ((v3 + ((v3.toUInt32 >>> (Int32.toUInt32 16 &&& Int32.toUInt32 31)).toInt32)) &&& 63, ah)
set_option maxRecDepth 100000 in
set_option maxHeartbeats 4000000 in
theorem k_J6_bitCount_0f7a4 {l : Launch} {g : GX} (d : Nat) {Q : jQ} {x0 : Int32} (ah : AH) (out : Int32 × AH) (h : f_J6_bitCount_0f7a4 x0 ah = some out) (hR : jRetI l g md_J6_bitCount_0f7a4 (jRm (d + 0) md_J6_bitCount_0f7a4) Q (0, 0) out.1 out.2) : J l g md_J6_bitCount_0f7a4 (jRm (d + 0) md_J6_bitCount_0f7a4) Q 0 [(0, .inl x0)] [] ah (0, 0) := by
  unfold f_J6_bitCount_0f7a4 at h
  refine J_seg ok_J6_bitCount_0f7a4 0 4 (pc' := 4) (ls' := [(0, .inl x0)]) (st' := [.inl ((x0.toUInt32 >>> (Int32.toUInt32 1 &&& Int32.toUInt32 31)).toInt32), .inl x0]) rfl ?_
  refine J_ldcw (jat ok_J6_bitCount_0f7a4 4 (pc := 4) (i := .ldc_w 265) (n := 3) rfl rfl) lc_RJ6_265 ?_
  refine J_seg ok_J6_bitCount_0f7a4 5 4 (pc' := 11) (ls' := [(0, .inl (x0 - (((x0.toUInt32 >>> (Int32.toUInt32 1 &&& Int32.toUInt32 31)).toInt32) &&& 1431655765)))]) (st' := [.inl (x0 - (((x0.toUInt32 >>> (Int32.toUInt32 1 &&& Int32.toUInt32 31)).toInt32) &&& 1431655765))]) rfl ?_
  refine J_ldcw (jat ok_J6_bitCount_0f7a4 9 (pc := 11) (i := .ldc_w 266) (n := 3) rfl rfl) lc_RJ6_266 ?_
  refine J_seg ok_J6_bitCount_0f7a4 10 4 (pc' := 18) (ls' := [(0, .inl (x0 - (((x0.toUInt32 >>> (Int32.toUInt32 1 &&& Int32.toUInt32 31)).toInt32) &&& 1431655765)))]) (st' := [.inl (((x0 - (((x0.toUInt32 >>> (Int32.toUInt32 1 &&& Int32.toUInt32 31)).toInt32) &&& 1431655765)).toUInt32 >>> (Int32.toUInt32 2 &&& Int32.toUInt32 31)).toInt32), .inl ((x0 - (((x0.toUInt32 >>> (Int32.toUInt32 1 &&& Int32.toUInt32 31)).toInt32) &&& 1431655765)) &&& 858993459)]) rfl ?_
  refine J_ldcw (jat ok_J6_bitCount_0f7a4 14 (pc := 18) (i := .ldc_w 266) (n := 3) rfl rfl) lc_RJ6_266 ?_
  refine J_seg ok_J6_bitCount_0f7a4 15 3 (pc' := 24) (ls' := [(0, .inl (((x0 - (((x0.toUInt32 >>> (Int32.toUInt32 1 &&& Int32.toUInt32 31)).toInt32) &&& 1431655765)) &&& 858993459) + ((((x0 - (((x0.toUInt32 >>> (Int32.toUInt32 1 &&& Int32.toUInt32 31)).toInt32) &&& 1431655765)).toUInt32 >>> (Int32.toUInt32 2 &&& Int32.toUInt32 31)).toInt32) &&& 858993459)))]) (st' := []) rfl ?_
  obtain ⟨v1, h2, h⟩ := Option.bind_eq_some_iff.mp h
  rw [Option.some.inj h2]
  refine J_seg ok_J6_bitCount_0f7a4 18 5 (pc' := 29) (ls' := [(0, .inl v1)]) (st' := [.inl (v1 + ((v1.toUInt32 >>> (Int32.toUInt32 4 &&& Int32.toUInt32 31)).toInt32))]) rfl ?_
  refine J_ldcw (jat ok_J6_bitCount_0f7a4 23 (pc := 29) (i := .ldc_w 267) (n := 3) rfl rfl) lc_RJ6_267 ?_
  refine J_seg ok_J6_bitCount_0f7a4 24 8 (pc' := 41) (ls' := [(0, .inl (((v1 + ((v1.toUInt32 >>> (Int32.toUInt32 4 &&& Int32.toUInt32 31)).toInt32)) &&& 252645135) + ((((v1 + ((v1.toUInt32 >>> (Int32.toUInt32 4 &&& Int32.toUInt32 31)).toInt32)) &&& 252645135).toUInt32 >>> (Int32.toUInt32 8 &&& Int32.toUInt32 31)).toInt32)))]) (st' := []) rfl ?_
  obtain ⟨v3, h4, h⟩ := Option.bind_eq_some_iff.mp h
  rw [Option.some.inj h4]
  refine J_seg ok_J6_bitCount_0f7a4 32 9 (pc' := 52) (ls' := [(0, .inl (v3 + ((v3.toUInt32 >>> (Int32.toUInt32 16 &&& Int32.toUInt32 31)).toInt32)))]) (st' := [.inl ((v3 + ((v3.toUInt32 >>> (Int32.toUInt32 16 &&& Int32.toUInt32 31)).toInt32)) &&& 63)]) rfl ?_
  have h := Option.some.inj h
  subst h
  exact hR _ _ (jat ok_J6_bitCount_0f7a4 41 (pc := 52) (i := .ireturn) (n := 1) rfl rfl)
theorem c_J6_bitCount_0f7a4 (l : Launch) (g : GX) (d : Nat) {x0 : Int32} {ah : AH} {q : Int32 × AH} (h : f_J6_bitCount_0f7a4 x0 ah = some q) : jM l g (d + 0) md_J6_bitCount_0f7a4 [.inl x0] ah (some (.inl q.1)) q.2 :=
  jM_of (by decide) (Nat.le_of_ble_eq_true rfl) (k_J6_bitCount_0f7a4 d ah q h (fun pc ls hd => J_reti hd rfl (jPV_int _) rfl (Nat.le_refl _) rfl rfl))
def f_X0_add (x0 : Option Nat) (x1 : Int32) (x2 : Int32) (ah : AH) : Option (Unit × AH) :=
  if x1 = 0 then ((gI ah x0 0 3).bind fun v1 => if v1 < 0 then (some ((), ah)) else ((gI ah x0 0 3).bind fun v3 => if 320 ≤ v3 then (some ((), ah)) else ((gR ah x0 0 0).bind fun v5 => (gI ah x0 0 3).bind fun v7 => (sA ah v5 v7 x2).bind fun a9 => (gI a9 x0 0 3).bind fun v11 => (sF a9 x0 0 3 (.inl (v11 + 1))).bind fun a13 => some ((), a13)))) else (some ((), ah))
set_option maxRecDepth 100000 in
set_option maxHeartbeats 4000000 in
theorem k_X0_add {l : Launch} {g : GX} (d : Nat) {Q : jQ} {x0 : Option Nat} {x1 : Int32} {x2 : Int32} (ah : AH) (out : Unit × AH) (h : f_X0_add x0 x1 x2 ah = some out) (hR : jRetV l g md_X0_add (jRm (d + 0) md_X0_add) Q (0, 0) out.1 out.2) : J l g md_X0_add (jRm (d + 0) md_X0_add) Q 0 [(0, .inr (.inr (.inl x0))), (1, .inl x1), (2, .inl x2)] [] ah (0, 0) := by
  unfold f_X0_add at h
  refine J_seg ok_X0_add 0 1 (pc' := 1) (ls' := [(0, .inr (.inr (.inl x0))), (1, .inl x1), (2, .inl x2)]) (st' := [.inl x1]) rfl ?_
  refine J_ne0 (jat ok_X0_add 1 (pc := 1) (i := .ifCond .ne 40) (n := 3) rfl rfl) (tgt := 41) (by decide) (fun c => ?_) (fun c => ?_)
  · have h := (if_neg c).symm.trans h
    have h := Option.some.inj h
    subst h
    exact hR _ _ (jat ok_X0_add 21 (pc := 41) (i := .return_) (n := 1) rfl rfl)
  · have h := (if_pos c).symm.trans h
    refine J_seg ok_X0_add 2 1 (pc' := 5) (ls' := [(0, .inr (.inr (.inl x0))), (1, .inl x1), (2, .inl x2)]) (st' := [.inr (.inr (.inl x0))]) rfl ?_
    obtain ⟨v1, h2, h⟩ := Option.bind_eq_some_iff.mp h
    refine J_getI (jat ok_X0_add 3 (pc := 5) (i := .getfield 21) (n := 3) rfl rfl) fl_RX0_21 h2 ?_
    refine J_lt0 (jat ok_X0_add 4 (pc := 8) (i := .ifCond .lt 33) (n := 3) rfl rfl) (tgt := 41) (by decide) (fun c => ?_) (fun c => ?_)
    · have h := (if_pos c).symm.trans h
      have h := Option.some.inj h
      subst h
      exact hR _ _ (jat ok_X0_add 21 (pc := 41) (i := .return_) (n := 1) rfl rfl)
    · have h := (if_neg c).symm.trans h
      refine J_seg ok_X0_add 5 1 (pc' := 12) (ls' := [(0, .inr (.inr (.inl x0))), (1, .inl x1), (2, .inl x2)]) (st' := [.inr (.inr (.inl x0))]) rfl ?_
      obtain ⟨v3, h4, h⟩ := Option.bind_eq_some_iff.mp h
      refine J_getI (jat ok_X0_add 6 (pc := 12) (i := .getfield 21) (n := 3) rfl rfl) fl_RX0_21 h4 ?_
      refine J_seg ok_X0_add 7 1 (pc' := 18) (ls' := [(0, .inr (.inr (.inl x0))), (1, .inl x1), (2, .inl x2)]) (st' := [.inl 320, .inl v3]) rfl ?_
      refine J_ge (jat ok_X0_add 8 (pc := 18) (i := .if_icmp .ge 23) (n := 3) rfl rfl) (tgt := 41) (by decide) (fun c => ?_) (fun c => ?_)
      · have h := (if_pos c).symm.trans h
        have h := Option.some.inj h
        subst h
        exact hR _ _ (jat ok_X0_add 21 (pc := 41) (i := .return_) (n := 1) rfl rfl)
      · have h := (if_neg c).symm.trans h
        refine J_seg ok_X0_add 9 1 (pc' := 22) (ls' := [(0, .inr (.inr (.inl x0))), (1, .inl x1), (2, .inl x2)]) (st' := [.inr (.inr (.inl x0))]) rfl ?_
        obtain ⟨v5, h6, h⟩ := Option.bind_eq_some_iff.mp h
        refine J_getR (jat ok_X0_add 10 (pc := 22) (i := .getfield 9) (n := 3) rfl rfl) fl_RX0_9 h6 ?_
        refine J_seg ok_X0_add 11 1 (pc' := 26) (ls' := [(0, .inr (.inr (.inl x0))), (1, .inl x1), (2, .inl x2)]) (st' := [.inr (.inr (.inl x0)), .inr (.inr (.inl v5))]) rfl ?_
        obtain ⟨v7, h8, h⟩ := Option.bind_eq_some_iff.mp h
        refine J_getI (jat ok_X0_add 12 (pc := 26) (i := .getfield 21) (n := 3) rfl rfl) fl_RX0_21 h8 ?_
        refine J_seg ok_X0_add 13 1 (pc' := 30) (ls' := [(0, .inr (.inr (.inl x0))), (1, .inl x1), (2, .inl x2)]) (st' := [.inl x2, .inl v7, .inr (.inr (.inl v5))]) rfl ?_
        obtain ⟨a9, h10, h⟩ := Option.bind_eq_some_iff.mp h
        refine J_iast (jat ok_X0_add 14 (pc := 30) (i := .iastore) (n := 1) rfl rfl) h10 ?_
        refine J_seg ok_X0_add 15 2 (pc' := 33) (ls' := [(0, .inr (.inr (.inl x0))), (1, .inl x1), (2, .inl x2)]) (st' := [.inr (.inr (.inl x0)), .inr (.inr (.inl x0))]) rfl ?_
        obtain ⟨v11, h12, h⟩ := Option.bind_eq_some_iff.mp h
        refine J_getI (jat ok_X0_add 17 (pc := 33) (i := .getfield 21) (n := 3) rfl rfl) fl_RX0_21 h12 ?_
        refine J_seg ok_X0_add 18 2 (pc' := 38) (ls' := [(0, .inr (.inr (.inl x0))), (1, .inl x1), (2, .inl x2)]) (st' := [.inl (v11 + 1), .inr (.inr (.inl x0))]) rfl ?_
        obtain ⟨a13, h14, h⟩ := Option.bind_eq_some_iff.mp h
        refine J_put (jat ok_X0_add 20 (pc := 38) (i := .putfield 21) (n := 3) rfl rfl) (fp_RX0_21 _) (jPV_int _) h14 ?_
        have h := Option.some.inj h
        subst h
        exact hR _ _ (jat ok_X0_add 21 (pc := 41) (i := .return_) (n := 1) rfl rfl)
theorem c_X0_add (l : Launch) (g : GX) (d : Nat) {x0 : Option Nat} {x1 : Int32} {x2 : Int32} {ah : AH} {q : Unit × AH} (h : f_X0_add x0 x1 x2 ah = some q) : jM l g (d + 0) md_X0_add [.inr (.inr (.inl x0)), .inl x1, .inl x2] ah none q.2 :=
  jM_of (by decide) (Nat.le_of_ble_eq_true rfl) (k_X0_add d ah q h (fun pc ls hd => J_retv hd rfl rfl (Nat.le_refl _) rfl rfl))
def f_X5_isIn (x0 : Int32) (x1 : Int32) (ah : AH) : Option (Int32 × AH) :=
  if x1 < 0 then (some (0, ah)) else (if 6 ≤ x1 then (some (0, ah)) else (if ((x0 >>> (x1 &&& 31)) &&& 1) = 1 then (some (1, ah)) else (some (0, ah))))
set_option maxRecDepth 100000 in
set_option maxHeartbeats 4000000 in
theorem k_X5_isIn {l : Launch} {g : GX} (d : Nat) {Q : jQ} {x0 : Int32} {x1 : Int32} (ah : AH) (out : Int32 × AH) (h : f_X5_isIn x0 x1 ah = some out) (hR : jRetZ l g md_X5_isIn (jRm (d + 0) md_X5_isIn) Q (0, 0) out.1 out.2) : J l g md_X5_isIn (jRm (d + 0) md_X5_isIn) Q 0 [(0, .inl x0), (1, .inl x1)] [] ah (0, 0) := by
  unfold f_X5_isIn at h
  refine J_seg ok_X5_isIn 0 1 (pc' := 1) (ls' := [(0, .inl x0), (1, .inl x1)]) (st' := [.inl x1]) rfl ?_
  refine J_lt0 (jat ok_X5_isIn 1 (pc := 1) (i := .ifCond .lt 22) (n := 3) rfl rfl) (tgt := 23) (by decide) (fun c => ?_) (fun c => ?_)
  · have h := (if_pos c).symm.trans h
    refine J_seg ok_X5_isIn 14 1 (pc' := 24) (ls' := [(0, .inl x0), (1, .inl x1)]) (st' := [.inl 0]) rfl ?_
    have h := Option.some.inj h
    subst h
    exact hR _ _ (jat ok_X5_isIn 15 (pc := 24) (i := .ireturn) (n := 1) rfl rfl) (Or.inl rfl)
  · have h := (if_neg c).symm.trans h
    refine J_seg ok_X5_isIn 2 2 (pc' := 7) (ls' := [(0, .inl x0), (1, .inl x1)]) (st' := [.inl 6, .inl x1]) rfl ?_
    refine J_ge (jat ok_X5_isIn 4 (pc := 7) (i := .if_icmp .ge 16) (n := 3) rfl rfl) (tgt := 23) (by decide) (fun c => ?_) (fun c => ?_)
    · have h := (if_pos c).symm.trans h
      refine J_seg ok_X5_isIn 14 1 (pc' := 24) (ls' := [(0, .inl x0), (1, .inl x1)]) (st' := [.inl 0]) rfl ?_
      have h := Option.some.inj h
      subst h
      exact hR _ _ (jat ok_X5_isIn 15 (pc := 24) (i := .ireturn) (n := 1) rfl rfl) (Or.inl rfl)
    · have h := (if_neg c).symm.trans h
      refine J_seg ok_X5_isIn 5 6 (pc' := 16) (ls' := [(0, .inl x0), (1, .inl x1)]) (st' := [.inl 1, .inl ((x0 >>> (x1 &&& 31)) &&& 1)]) rfl ?_
      refine J_ne (jat ok_X5_isIn 11 (pc := 16) (i := .if_icmp .ne 7) (n := 3) rfl rfl) (tgt := 23) (by decide) (fun c => ?_) (fun c => ?_)
      · have h := (if_neg c).symm.trans h
        refine J_seg ok_X5_isIn 14 1 (pc' := 24) (ls' := [(0, .inl x0), (1, .inl x1)]) (st' := [.inl 0]) rfl ?_
        have h := Option.some.inj h
        subst h
        exact hR _ _ (jat ok_X5_isIn 15 (pc := 24) (i := .ireturn) (n := 1) rfl rfl) (Or.inl rfl)
      · have h := (if_pos c).symm.trans h
        refine J_seg ok_X5_isIn 12 2 (pc' := 24) (ls' := [(0, .inl x0), (1, .inl x1)]) (st' := [.inl 1]) rfl ?_
        have h := Option.some.inj h
        subst h
        exact hR _ _ (jat ok_X5_isIn 15 (pc := 24) (i := .ireturn) (n := 1) rfl rfl) (Or.inr rfl)
theorem c_X5_isIn (l : Launch) (g : GX) (d : Nat) {x0 : Int32} {x1 : Int32} {ah : AH} {q : Int32 × AH} (h : f_X5_isIn x0 x1 ah = some q) : jM l g (d + 0) md_X5_isIn [.inl x0, .inl x1] ah (some (.inl q.1)) q.2 :=
  jM_of (by decide) (Nat.le_of_ble_eq_true rfl) (k_X5_isIn d ah q h (fun pc ls hd c => J_reti hd rfl (jPV_z c) rfl (Nat.le_refl _) rfl rfl))
def f_X0_drawS_j22 (rc : Option Nat → Int32 → Int32 → Int32 → AH → Option (Unit × AH)) (x0 : Option Nat) (x2 : Int32) (x3 : Int32) (ah : AH) : Option (Unit × AH) :=
  if qO ah x0 0 = true then ((f_X0_add x0 x2 x3 ah).bind fun q3 => some ((), q3.2)) else none
set_option maxRecDepth 100000 in
set_option maxHeartbeats 4000000 in
theorem k_X0_draw_j22 {l : Launch} {g : GX} (d : Nat) {Q : jQ} {rc : Option Nat → Int32 → Int32 → Int32 → AH → Option (Unit × AH)} (hrc : ∀ x0 x1 x2 x3 ah q, rc x0 x1 x2 x3 ah = some q → jM l g (d + 1) md_X0_draw [.inr (.inr (.inl x0)), .inl x1, .inl x2, .inl x3] ah none q.2) {x0 : Option Nat} {x2 : Int32} {x3 : Int32} (ah : AH) (out : Unit × AH) (h : f_X0_drawS_j22 rc x0 x2 x3 ah = some out) (hR : jRetV l g md_X0_draw (jRm (d + 2) md_X0_draw) Q (0, 0) out.1 out.2) : J l g md_X0_draw (jRm (d + 2) md_X0_draw) Q 22 [(0, .inr (.inr (.inl x0))), (2, .inl x2), (3, .inl x3)] [] ah (0, 0) := by
  unfold f_X0_drawS_j22 at h
  refine J_seg ok_X0_draw 11 3 (pc' := 25) (ls' := [(0, .inr (.inr (.inl x0))), (2, .inl x2), (3, .inl x3)]) (st' := [.inl x3, .inl x2, .inr (.inr (.inl x0))]) rfl ?_
  by_cases c5 : qO ah x0 0 = true
  case neg => exact absurd ((if_neg c5).symm.trans h) (by simp)
  have h := (if_pos c5).symm.trans h
  obtain ⟨q3, h4, h⟩ := Option.bind_eq_some_iff.mp h
  refine J_callV (md' := md_X0_add) (As := [.inl x2, .inl x3]) (st := []) (cs' := (0, 0)) (st' := []) (jat ok_X0_draw 14 (pc := 25) (i := .invokevirtual 39) (n := 3) rfl rfl) ml_RX0_39 yv_X0_add c5 (c_X0_add l g (d + 1) h4) (jRo_of (by decide)) (Nat.le_of_ble_eq_true rfl) ⟨Nat.le_of_ble_eq_true rfl, Nat.le_of_ble_eq_true rfl⟩ rfl rfl rfl ?_
  have h := Option.some.inj h
  subst h
  exact hR _ _ (jat ok_X0_draw 15 (pc := 28) (i := .return_) (n := 1) rfl rfl)
def f_X0_drawS_b44 (rc : Option Nat → Int32 → Int32 → Int32 → AH → Option (Unit × AH)) (k0 : Option Nat) (k1 : Int32) (k2 : Int32) (k3 : Int32) (k4 : Int32) (k5 : Int32) (s : Int32) (ah : AH) : Option ((Unit × AH) ⊕ (((Unit) × AH) ⊕ ((Int32) × AH))) :=
  if k4 ≤ s then (some (.inr (.inl ((), ah)))) else ((f_X5_isIn k5 s ah).bind fun q10 => if q10.1 = 0 then (some (.inr (.inr (s + 1, q10.2)))) else ((rc k0 (k1 + 1) (k2 &&& ((1 <<< (s &&& 31)) ^^^ (-1))) (k3 ||| (s <<< ((3 * k1) &&& 31))) q10.2).bind fun q12 => some (.inr (.inr (s + 1, q12.2)))))
set_option maxRecDepth 100000 in
set_option maxHeartbeats 4000000 in
theorem k_X0_draw_b44 {l : Launch} {g : GX} (d : Nat) {Q : jQ} {rc : Option Nat → Int32 → Int32 → Int32 → AH → Option (Unit × AH)} (hrc : ∀ x0 x1 x2 x3 ah q, rc x0 x1 x2 x3 ah = some q → jM l g (d + 1) md_X0_draw [.inr (.inr (.inl x0)), .inl x1, .inl x2, .inl x3] ah none q.2) {k0 : Option Nat} {k1 : Int32} {k2 : Int32} {k3 : Int32} {k4 : Int32} {k5 : Int32} (s : Int32) (ah : AH) (out : (Unit × AH) ⊕ (((Unit) × AH) ⊕ ((Int32) × AH))) (h : f_X0_drawS_b44 rc k0 k1 k2 k3 k4 k5 s ah = some out) (hR : ∀ q, out = .inl q → jRetN q.1 q.2) (hX : ∀ q, out = .inr (.inl q) → J l g md_X0_draw (jRm (d + 2) md_X0_draw) Q 90 [(0, .inr (.inr (.inl k0))), (1, .inl k1), (2, .inl k2), (3, .inl k3), (4, .inl k4)] [] q.2 (0, 0)) (hN : ∀ q, out = .inr (.inr q) → J l g md_X0_draw (jRm (d + 2) md_X0_draw) Q 44 [(0, .inr (.inr (.inl k0))), (1, .inl k1), (2, .inl k2), (3, .inl k3), (4, .inl k4), (5, .inl k5), (6, .inl q.1)] [] q.2 (0, 0)) : J l g md_X0_draw (jRm (d + 2) md_X0_draw) Q 44 [(0, .inr (.inr (.inl k0))), (1, .inl k1), (2, .inl k2), (3, .inl k3), (4, .inl k4), (5, .inl k5), (6, .inl s)] [] ah (0, 0) := by
  unfold f_X0_drawS_b44 at h
  refine J_seg ok_X0_draw 27 2 (pc' := 48) (ls' := [(0, .inr (.inr (.inl k0))), (1, .inl k1), (2, .inl k2), (3, .inl k3), (4, .inl k4), (5, .inl k5), (6, .inl s)]) (st' := [.inl k4, .inl s]) rfl ?_
  refine J_ge (jat ok_X0_draw 29 (pc := 48) (i := .if_icmp .ge 42) (n := 3) rfl rfl) (tgt := 90) (by decide) (fun c => ?_) (fun c => ?_)
  · have h := (if_pos c).symm.trans h
    exact J_sub (ls' := [(0, .inr (.inr (.inl k0))), (1, .inl k1), (2, .inl k2), (3, .inl k3), (4, .inl k4)]) [0, 1, 2, 3, 4] rfl (hX _ (Option.some.inj h).symm)
  · have h := (if_neg c).symm.trans h
    refine J_seg ok_X0_draw 30 2 (pc' := 55) (ls' := [(0, .inr (.inr (.inl k0))), (1, .inl k1), (2, .inl k2), (3, .inl k3), (4, .inl k4), (5, .inl k5), (6, .inl s)]) (st' := [.inl s, .inl k5]) rfl ?_
    obtain ⟨q10, h11, h⟩ := Option.bind_eq_some_iff.mp h
    refine J_callS (md' := md_X5_isIn) (As := [.inl k5, .inl s]) (st := []) (cs' := (0, 0)) (st' := [.inl q10.1]) (jat ok_X0_draw 32 (pc := 55) (i := .invokestatic 43) (n := 3) rfl rfl) (Or.inr ⟨_, mn_RX0_43⟩) ys_X5_isIn (c_X5_isIn l g (d + 1) h11) (jRo_of (by decide)) (Nat.le_of_ble_eq_true rfl) ⟨Nat.le_of_ble_eq_true rfl, Nat.le_of_ble_eq_true rfl⟩ rfl rfl rfl ?_
    refine J_eq0 (jat ok_X0_draw 33 (pc := 58) (i := .ifCond .eq 26) (n := 3) rfl rfl) (tgt := 84) (by decide) (fun c => ?_) (fun c => ?_)
    · have h := (if_pos c).symm.trans h
      refine J_seg ok_X0_draw 53 2 (pc' := 44) (ls' := [(6, .inl (s + 1)), (0, .inr (.inr (.inl k0))), (1, .inl k1), (2, .inl k2), (3, .inl k3), (4, .inl k4), (5, .inl k5)]) (st' := []) rfl ?_
      exact J_sub (ls' := [(0, .inr (.inr (.inl k0))), (1, .inl k1), (2, .inl k2), (3, .inl k3), (4, .inl k4), (5, .inl k5), (6, .inl (s + 1))]) [1, 2, 3, 4, 5, 6, 0] rfl (hN _ (Option.some.inj h).symm)
    · have h := (if_neg c).symm.trans h
      refine J_seg ok_X0_draw 34 18 (pc' := 81) (ls' := [(0, .inr (.inr (.inl k0))), (1, .inl k1), (2, .inl k2), (3, .inl k3), (4, .inl k4), (5, .inl k5), (6, .inl s)]) (st' := [.inl (k3 ||| (s <<< ((3 * k1) &&& 31))), .inl (k2 &&& ((1 <<< (s &&& 31)) ^^^ (-1))), .inl (k1 + 1), .inr (.inr (.inl k0))]) rfl ?_
      obtain ⟨q12, h13, h⟩ := Option.bind_eq_some_iff.mp h
      refine J_callS (md' := md_X0_draw) (As := [.inr (.inr (.inl k0)), .inl (k1 + 1), .inl (k2 &&& ((1 <<< (s &&& 31)) ^^^ (-1))), .inl (k3 ||| (s <<< ((3 * k1) &&& 31)))]) (st := []) (cs' := (0, 0)) (st' := []) (jat ok_X0_draw 52 (pc := 81) (i := .invokestatic 35) (n := 3) rfl rfl) (Or.inl ml_RX0_35) ys_X0_draw (hrc _ _ _ _ _ _ h13) (jRo_of (by decide)) (Nat.le_of_ble_eq_true rfl) ⟨Nat.le_of_ble_eq_true rfl, Nat.le_of_ble_eq_true rfl⟩ rfl rfl rfl ?_
      refine J_seg ok_X0_draw 53 2 (pc' := 44) (ls' := [(6, .inl (s + 1)), (0, .inr (.inr (.inl k0))), (1, .inl k1), (2, .inl k2), (3, .inl k3), (4, .inl k4), (5, .inl k5)]) (st' := []) rfl ?_
      exact J_sub (ls' := [(0, .inr (.inr (.inl k0))), (1, .inl k1), (2, .inl k2), (3, .inl k3), (4, .inl k4), (5, .inl k5), (6, .inl (s + 1))]) [1, 2, 3, 4, 5, 6, 0] rfl (hN _ (Option.some.inj h).symm)
def f_X0_drawS (rc : Option Nat → Int32 → Int32 → Int32 → AH → Option (Unit × AH)) (x0 : Option Nat) (x1 : Int32) (x2 : Int32) (x3 : Int32) (ah : AH) : Option (Unit × AH) :=
  (gI ah x0 0 4).bind fun v1 => if x1 < 0 then (f_X0_drawS_j22 rc x0 x2 x3 ah) else (if v1 ≤ x1 then (f_X0_drawS_j22 rc x0 x2 x3 ah) else (if x1 < 6 then ((gR ah x0 0 1).bind fun v6 => (gA ah v6 x1).bind fun v8 => (jloop (f_X0_drawS_b44 rc x0 x1 x2 x3 v1 (x2 &&& (v8 ^^^ (-1)))) jfuel 0 ah).bind fun q14 => match q14 with | .inl r => none | .inr x => (f_J6_bitCount_0f7a4 x2 x.2).bind fun q16 => if (v1 - x1) ≤ q16.1 then (some ((), q16.2)) else ((rc x0 (x1 + 1) x2 (x3 ||| (7 <<< ((3 * x1) &&& 31))) q16.2).bind fun q18 => some ((), q18.2))) else (f_X0_drawS_j22 rc x0 x2 x3 ah)))
set_option maxRecDepth 100000 in
set_option maxHeartbeats 4000000 in
theorem k_X0_draw {l : Launch} {g : GX} (d : Nat) {Q : jQ} {rc : Option Nat → Int32 → Int32 → Int32 → AH → Option (Unit × AH)} (hrc : ∀ x0 x1 x2 x3 ah q, rc x0 x1 x2 x3 ah = some q → jM l g (d + 1) md_X0_draw [.inr (.inr (.inl x0)), .inl x1, .inl x2, .inl x3] ah none q.2) {x0 : Option Nat} {x1 : Int32} {x2 : Int32} {x3 : Int32} (ah : AH) (out : Unit × AH) (h : f_X0_drawS rc x0 x1 x2 x3 ah = some out) (hR : jRetV l g md_X0_draw (jRm (d + 2) md_X0_draw) Q (0, 0) out.1 out.2) : J l g md_X0_draw (jRm (d + 2) md_X0_draw) Q 0 [(0, .inr (.inr (.inl x0))), (1, .inl x1), (2, .inl x2), (3, .inl x3)] [] ah (0, 0) := by
  unfold f_X0_drawS at h
  refine J_seg ok_X0_draw 0 1 (pc' := 1) (ls' := [(0, .inr (.inr (.inl x0))), (1, .inl x1), (2, .inl x2), (3, .inl x3)]) (st' := [.inr (.inr (.inl x0))]) rfl ?_
  obtain ⟨v1, h2, h⟩ := Option.bind_eq_some_iff.mp h
  refine J_getI (jat ok_X0_draw 1 (pc := 1) (i := .getfield 30) (n := 3) rfl rfl) fl_RX0_30 h2 ?_
  refine J_seg ok_X0_draw 2 2 (pc' := 7) (ls' := [(4, .inl v1), (0, .inr (.inr (.inl x0))), (1, .inl x1), (2, .inl x2), (3, .inl x3)]) (st' := [.inl x1]) rfl ?_
  refine J_lt0 (jat ok_X0_draw 4 (pc := 7) (i := .ifCond .lt 15) (n := 3) rfl rfl) (tgt := 22) (by decide) (fun c => ?_) (fun c => ?_)
  · have h := (if_pos c).symm.trans h
    refine J_sub (ls' := [(0, .inr (.inr (.inl x0))), (2, .inl x2), (3, .inl x3)]) [1, 3, 4] rfl ?_
    exact k_X0_draw_j22 d hrc _ _ h hR
  · have h := (if_neg c).symm.trans h
    refine J_seg ok_X0_draw 5 2 (pc' := 13) (ls' := [(4, .inl v1), (0, .inr (.inr (.inl x0))), (1, .inl x1), (2, .inl x2), (3, .inl x3)]) (st' := [.inl v1, .inl x1]) rfl ?_
    refine J_ge (jat ok_X0_draw 7 (pc := 13) (i := .if_icmp .ge 9) (n := 3) rfl rfl) (tgt := 22) (by decide) (fun c => ?_) (fun c => ?_)
    · have h := (if_pos c).symm.trans h
      refine J_sub (ls' := [(0, .inr (.inr (.inl x0))), (2, .inl x2), (3, .inl x3)]) [1, 3, 4] rfl ?_
      exact k_X0_draw_j22 d hrc _ _ h hR
    · have h := (if_neg c).symm.trans h
      refine J_seg ok_X0_draw 8 2 (pc' := 19) (ls' := [(4, .inl v1), (0, .inr (.inr (.inl x0))), (1, .inl x1), (2, .inl x2), (3, .inl x3)]) (st' := [.inl 6, .inl x1]) rfl ?_
      refine J_lt (jat ok_X0_draw 10 (pc := 19) (i := .if_icmp .lt 10) (n := 3) rfl rfl) (tgt := 29) (by decide) (fun c => ?_) (fun c => ?_)
      · have h := (if_pos c).symm.trans h
        refine J_seg ok_X0_draw 16 2 (pc' := 31) (ls' := [(4, .inl v1), (0, .inr (.inr (.inl x0))), (1, .inl x1), (2, .inl x2), (3, .inl x3)]) (st' := [.inr (.inr (.inl x0)), .inl x2]) rfl ?_
        obtain ⟨v6, h7, h⟩ := Option.bind_eq_some_iff.mp h
        refine J_getR (jat ok_X0_draw 18 (pc := 31) (i := .getfield 15) (n := 3) rfl rfl) fl_RX0_15 h7 ?_
        refine J_seg ok_X0_draw 19 1 (pc' := 35) (ls' := [(4, .inl v1), (0, .inr (.inr (.inl x0))), (1, .inl x1), (2, .inl x2), (3, .inl x3)]) (st' := [.inl x1, .inr (.inr (.inl v6)), .inl x2]) rfl ?_
        obtain ⟨v8, h9, h⟩ := Option.bind_eq_some_iff.mp h
        refine J_iald (jat ok_X0_draw 20 (pc := 35) (i := .iaload) (n := 1) rfl rfl) h9 ?_
        refine J_seg ok_X0_draw 21 6 (pc' := 44) (ls' := [(6, .inl 0), (5, .inl (x2 &&& (v8 ^^^ (-1)))), (4, .inl v1), (0, .inr (.inr (.inl x0))), (1, .inl x1), (2, .inl x2), (3, .inl x3)]) (st' := []) rfl ?_
        obtain ⟨q14, h15, h⟩ := Option.bind_eq_some_iff.mp h
        refine J_sub (ls' := [(0, .inr (.inr (.inl x0))), (1, .inl x1), (2, .inl x2), (3, .inl x3), (4, .inl v1), (5, .inl (x2 &&& (v8 ^^^ (-1)))), (6, .inl 0)]) [3, 4, 5, 6, 2, 1, 0] rfl ?_
        refine J_loop (pE := 90) (lh := fun s => [(0, .inr (.inr (.inl x0))), (1, .inl x1), (2, .inl x2), (3, .inl x3), (4, .inl v1), (5, .inl (x2 &&& (v8 ^^^ (-1)))), (6, .inl s)]) (lx := fun x => [(0, .inr (.inr (.inl x0))), (1, .inl x1), (2, .inl x2), (3, .inl x3), (4, .inl v1)]) (P := jRetN) (fun s ah out hb hR hX hN => k_X0_draw_b44 d hrc s ah out hb hR hX hN) jfuel 0 _ _ h15 (fun r e => ?_) (fun x e => ?_)
        · subst e
          dsimp only at h
          cases h
        · subst e
          dsimp only at h
          refine J_seg ok_X0_draw 55 4 (pc' := 95) (ls' := [(0, .inr (.inr (.inl x0))), (1, .inl x1), (2, .inl x2), (3, .inl x3), (4, .inl v1)]) (st' := [.inl x2, .inl (v1 - x1)]) rfl ?_
          obtain ⟨q16, h17, h⟩ := Option.bind_eq_some_iff.mp h
          refine J_callS (md' := md_J6_bitCount_0f7a4) (As := [.inl x2]) (st := [.inl (v1 - x1)]) (cs' := (0, 0)) (st' := [.inl q16.1, .inl (v1 - x1)]) (jat ok_X0_draw 59 (pc := 95) (i := .invokestatic 47) (n := 3) rfl rfl) (Or.inl ml_RX0_47) ys_J6_bitCount_0f7a4 (c_J6_bitCount_0f7a4 l g (d + 1) h17) (jRo_of (by decide)) (Nat.le_of_ble_eq_true rfl) ⟨Nat.le_of_ble_eq_true rfl, Nat.le_of_ble_eq_true rfl⟩ rfl rfl rfl ?_
          refine J_le (jat ok_X0_draw 60 (pc := 98) (i := .if_icmp .le 19) (n := 3) rfl rfl) (tgt := 117) (by decide) (fun c => ?_) (fun c => ?_)
          · have h := (if_pos c).symm.trans h
            have h := Option.some.inj h
            subst h
            exact hR _ _ (jat ok_X0_draw 74 (pc := 117) (i := .return_) (n := 1) rfl rfl)
          · have h := (if_neg c).symm.trans h
            refine J_seg ok_X0_draw 61 12 (pc' := 114) (ls' := [(0, .inr (.inr (.inl x0))), (1, .inl x1), (2, .inl x2), (3, .inl x3), (4, .inl v1)]) (st' := [.inl (x3 ||| (7 <<< ((3 * x1) &&& 31))), .inl x2, .inl (x1 + 1), .inr (.inr (.inl x0))]) rfl ?_
            obtain ⟨q18, h19, h⟩ := Option.bind_eq_some_iff.mp h
            refine J_callS (md' := md_X0_draw) (As := [.inr (.inr (.inl x0)), .inl (x1 + 1), .inl x2, .inl (x3 ||| (7 <<< ((3 * x1) &&& 31)))]) (st := []) (cs' := (0, 0)) (st' := []) (jat ok_X0_draw 73 (pc := 114) (i := .invokestatic 35) (n := 3) rfl rfl) (Or.inl ml_RX0_35) ys_X0_draw (hrc _ _ _ _ _ _ h19) (jRo_of (by decide)) (Nat.le_of_ble_eq_true rfl) ⟨Nat.le_of_ble_eq_true rfl, Nat.le_of_ble_eq_true rfl⟩ rfl rfl rfl ?_
            have h := Option.some.inj h
            subst h
            exact hR _ _ (jat ok_X0_draw 74 (pc := 117) (i := .return_) (n := 1) rfl rfl)
      · have h := (if_neg c).symm.trans h
        refine J_sub (ls' := [(0, .inr (.inr (.inl x0))), (2, .inl x2), (3, .inl x3)]) [1, 3, 4] rfl ?_
        exact k_X0_draw_j22 d hrc _ _ h hR
def fr_X0_draw : Nat → Option Nat → Int32 → Int32 → Int32 → AH → Option (Unit × AH)
  | 0 => fun _ _ _ _ _ => none
  | n + 1 => f_X0_drawS (fr_X0_draw n)
theorem cr_X0_draw (l : Launch) (g : GX) (d : Nat) : ∀ (n : Nat) (x0 : Option Nat) (x1 x2 x3 : Int32) (ah : AH) (q : Unit × AH), fr_X0_draw n x0 x1 x2 x3 ah = some q → jM l g (d + n + 1) md_X0_draw [.inr (.inr (.inl x0)), .inl x1, .inl x2, .inl x3] ah none q.2
  | 0, _, _, _, _, _, _, h => by cases h
  | n + 1, x0, x1, x2, x3, ah, q, h => jM_of (by decide) (Nat.le_of_ble_eq_true rfl) (k_X0_draw (d + n) (cr_X0_draw l g d n) ah q h (fun pc ls hd => J_retv hd rfl rfl (Nat.le_refl _) rfl rfl))
def f_X0_draw (x0 : Option Nat) (x1 x2 x3 : Int32) (ah : AH) : Option (Unit × AH) := fr_X0_draw 8 x0 x1 x2 x3 ah
theorem c_X0_draw (l : Launch) (g : GX) (d : Nat) {x0 : Option Nat} {x1 : Int32} {x2 : Int32} {x3 : Int32} {ah : AH} {q : Unit × AH} (h : f_X0_draw x0 x1 x2 x3 ah = some q) : jM l g (d + 9) md_X0_draw [.inr (.inr (.inl x0)), .inl x1, .inl x2, .inl x3] ah none q.2 :=
  cr_X0_draw l g d 8 x0 x1 x2 x3 ah q h
def f_X1_has (x0 : Option Nat) (x1 : Int32) (ah : AH) : Option (Int32 × AH) :=
  if x1 < 0 then (some (0, ah)) else ((gI ah x0 1 5).bind fun v1 => if v1 ≤ x1 then (some (0, ah)) else (if 6 ≤ x1 then (some (0, ah)) else (some (1, ah))))
set_option maxRecDepth 100000 in
set_option maxHeartbeats 4000000 in
theorem k_X1_has {l : Launch} {g : GX} (d : Nat) {Q : jQ} {x0 : Option Nat} {x1 : Int32} (ah : AH) (out : Int32 × AH) (h : f_X1_has x0 x1 ah = some out) (hR : jRetZ l g md_X1_has (jRm (d + 0) md_X1_has) Q (0, 0) out.1 out.2) : J l g md_X1_has (jRm (d + 0) md_X1_has) Q 0 [(0, .inr (.inr (.inl x0))), (1, .inl x1)] [] ah (0, 0) := by
  unfold f_X1_has at h
  refine J_seg ok_X1_has 0 1 (pc' := 1) (ls' := [(0, .inr (.inr (.inl x0))), (1, .inl x1)]) (st' := [.inl x1]) rfl ?_
  refine J_lt0 (jat ok_X1_has 1 (pc := 1) (i := .ifCond .lt 21) (n := 3) rfl rfl) (tgt := 22) (by decide) (fun c => ?_) (fun c => ?_)
  · have h := (if_pos c).symm.trans h
    refine J_seg ok_X1_has 11 1 (pc' := 23) (ls' := [(0, .inr (.inr (.inl x0))), (1, .inl x1)]) (st' := [.inl 0]) rfl ?_
    have h := Option.some.inj h
    subst h
    exact hR _ _ (jat ok_X1_has 12 (pc := 23) (i := .ireturn) (n := 1) rfl rfl) (Or.inl rfl)
  · have h := (if_neg c).symm.trans h
    refine J_seg ok_X1_has 2 2 (pc' := 6) (ls' := [(0, .inr (.inr (.inl x0))), (1, .inl x1)]) (st' := [.inr (.inr (.inl x0)), .inl x1]) rfl ?_
    obtain ⟨v1, h2, h⟩ := Option.bind_eq_some_iff.mp h
    refine J_getI (jat ok_X1_has 4 (pc := 6) (i := .getfield 27) (n := 3) rfl rfl) fl_RX1_27 h2 ?_
    refine J_ge (jat ok_X1_has 5 (pc := 9) (i := .if_icmp .ge 13) (n := 3) rfl rfl) (tgt := 22) (by decide) (fun c => ?_) (fun c => ?_)
    · have h := (if_pos c).symm.trans h
      refine J_seg ok_X1_has 11 1 (pc' := 23) (ls' := [(0, .inr (.inr (.inl x0))), (1, .inl x1)]) (st' := [.inl 0]) rfl ?_
      have h := Option.some.inj h
      subst h
      exact hR _ _ (jat ok_X1_has 12 (pc := 23) (i := .ireturn) (n := 1) rfl rfl) (Or.inl rfl)
    · have h := (if_neg c).symm.trans h
      refine J_seg ok_X1_has 6 2 (pc' := 15) (ls' := [(0, .inr (.inr (.inl x0))), (1, .inl x1)]) (st' := [.inl 6, .inl x1]) rfl ?_
      refine J_ge (jat ok_X1_has 8 (pc := 15) (i := .if_icmp .ge 7) (n := 3) rfl rfl) (tgt := 22) (by decide) (fun c => ?_) (fun c => ?_)
      · have h := (if_pos c).symm.trans h
        refine J_seg ok_X1_has 11 1 (pc' := 23) (ls' := [(0, .inr (.inr (.inl x0))), (1, .inl x1)]) (st' := [.inl 0]) rfl ?_
        have h := Option.some.inj h
        subst h
        exact hR _ _ (jat ok_X1_has 12 (pc := 23) (i := .ireturn) (n := 1) rfl rfl) (Or.inl rfl)
      · have h := (if_neg c).symm.trans h
        refine J_seg ok_X1_has 9 2 (pc' := 23) (ls' := [(0, .inr (.inr (.inl x0))), (1, .inl x1)]) (st' := [.inl 1]) rfl ?_
        have h := Option.some.inj h
        subst h
        exact hR _ _ (jat ok_X1_has 12 (pc := 23) (i := .ireturn) (n := 1) rfl rfl) (Or.inr rfl)
theorem c_X1_has (l : Launch) (g : GX) (d : Nat) {x0 : Option Nat} {x1 : Int32} {ah : AH} {q : Int32 × AH} (h : f_X1_has x0 x1 ah = some q) : jM l g (d + 0) md_X1_has [.inr (.inr (.inl x0)), .inl x1] ah (some (.inl q.1)) q.2 :=
  jM_of (by decide) (Nat.le_of_ble_eq_true rfl) (k_X1_has d ah q h (fun pc ls hd c => J_reti hd rfl (jPV_z c) rfl (Nat.le_refl _) rfl rfl))
def f_X1_lovedBy (x0 : Option Nat) (x1 : Int32) (ah : AH) : Option (Int32 × AH) :=
  if qO ah x0 1 = true then ((f_X1_has x0 x1 ah).bind fun q1 => if q1.1 = 0 then (some (0, q1.2)) else ((gR q1.2 x0 1 3).bind fun v4 => (gA q1.2 v4 x1).bind fun v6 => some (v6, q1.2))) else none
set_option maxRecDepth 100000 in
set_option maxHeartbeats 4000000 in
theorem k_X1_lovedBy {l : Launch} {g : GX} (d : Nat) {Q : jQ} {x0 : Option Nat} {x1 : Int32} (ah : AH) (out : Int32 × AH) (h : f_X1_lovedBy x0 x1 ah = some out) (hR : jRetI l g md_X1_lovedBy (jRm (d + 1) md_X1_lovedBy) Q (0, 0) out.1 out.2) : J l g md_X1_lovedBy (jRm (d + 1) md_X1_lovedBy) Q 0 [(0, .inr (.inr (.inl x0))), (1, .inl x1)] [] ah (0, 0) := by
  unfold f_X1_lovedBy at h
  refine J_seg ok_X1_lovedBy 0 2 (pc' := 2) (ls' := [(0, .inr (.inr (.inl x0))), (1, .inl x1)]) (st' := [.inl x1, .inr (.inr (.inl x0))]) rfl ?_
  by_cases c3 : qO ah x0 1 = true
  case neg => exact absurd ((if_neg c3).symm.trans h) (by simp)
  have h := (if_pos c3).symm.trans h
  obtain ⟨q1, h2, h⟩ := Option.bind_eq_some_iff.mp h
  refine J_callV (md' := md_X1_has) (As := [.inl x1]) (st := []) (cs' := (0, 0)) (st' := [.inl q1.1]) (jat ok_X1_lovedBy 2 (pc := 2) (i := .invokevirtual 34) (n := 3) rfl rfl) ml_RX1_34 yv_X1_has c3 (c_X1_has l g (d + 0) h2) (jRo_of (by decide)) (Nat.le_of_ble_eq_true rfl) ⟨Nat.le_of_ble_eq_true rfl, Nat.le_of_ble_eq_true rfl⟩ rfl rfl rfl ?_
  refine J_eq0 (jat ok_X1_lovedBy 3 (pc := 5) (i := .ifCond .eq 12) (n := 3) rfl rfl) (tgt := 17) (by decide) (fun c => ?_) (fun c => ?_)
  · have h := (if_pos c).symm.trans h
    refine J_seg ok_X1_lovedBy 9 1 (pc' := 18) (ls' := [(0, .inr (.inr (.inl x0))), (1, .inl x1)]) (st' := [.inl 0]) rfl ?_
    have h := Option.some.inj h
    subst h
    exact hR _ _ (jat ok_X1_lovedBy 10 (pc := 18) (i := .ireturn) (n := 1) rfl rfl)
  · have h := (if_neg c).symm.trans h
    refine J_seg ok_X1_lovedBy 4 1 (pc' := 9) (ls' := [(0, .inr (.inr (.inl x0))), (1, .inl x1)]) (st' := [.inr (.inr (.inl x0))]) rfl ?_
    obtain ⟨v4, h5, h⟩ := Option.bind_eq_some_iff.mp h
    refine J_getR (jat ok_X1_lovedBy 5 (pc := 9) (i := .getfield 21) (n := 3) rfl rfl) fl_RX1_21 h5 ?_
    refine J_seg ok_X1_lovedBy 6 1 (pc' := 13) (ls' := [(0, .inr (.inr (.inl x0))), (1, .inl x1)]) (st' := [.inl x1, .inr (.inr (.inl v4))]) rfl ?_
    obtain ⟨v6, h7, h⟩ := Option.bind_eq_some_iff.mp h
    refine J_iald (jat ok_X1_lovedBy 7 (pc := 13) (i := .iaload) (n := 1) rfl rfl) h7 ?_
    refine J_seg ok_X1_lovedBy 8 1 (pc' := 18) (ls' := [(0, .inr (.inr (.inl x0))), (1, .inl x1)]) (st' := [.inl v6]) rfl ?_
    have h := Option.some.inj h
    subst h
    exact hR _ _ (jat ok_X1_lovedBy 10 (pc := 18) (i := .ireturn) (n := 1) rfl rfl)
theorem c_X1_lovedBy (l : Launch) (g : GX) (d : Nat) {x0 : Option Nat} {x1 : Int32} {ah : AH} {q : Int32 × AH} (h : f_X1_lovedBy x0 x1 ah = some q) : jM l g (d + 1) md_X1_lovedBy [.inr (.inr (.inl x0)), .inl x1] ah (some (.inl q.1)) q.2 :=
  jM_of (by decide) (Nat.le_of_ble_eq_true rfl) (k_X1_lovedBy d ah q h (fun pc ls hd => J_reti hd rfl (jPV_int _) rfl (Nat.le_refl _) rfl rfl))
def f_X0_seek_b16_j47 (k0 : Option Nat) (k1 : Option Nat) (k2 : Int32) (k3 : Int32) (x4 : Int32) (y0 : Int32) (y1 : Int32) (y2 : Int32) (y3 : Option Nat) (ah : AH) : Option ((Unit × AH) ⊕ (((Unit) × AH) ⊕ ((Int32) × AH))) :=
  (sA ah y3 y2 (y1 ||| y0)).bind fun a12 => some (.inr (.inr (x4 + 1, a12)))
set_option maxRecDepth 100000 in
set_option maxHeartbeats 4000000 in
theorem k_X0_seek_b16_j47 {l : Launch} {g : GX} (d : Nat) {Q : jQ} {k0 : Option Nat} {k1 : Option Nat} {k2 : Int32} {k3 : Int32} {x4 : Int32} {y0 : Int32} {y1 : Int32} {y2 : Int32} {y3 : Option Nat} (ah : AH) (out : (Unit × AH) ⊕ (((Unit) × AH) ⊕ ((Int32) × AH))) (h : f_X0_seek_b16_j47 k0 k1 k2 k3 x4 y0 y1 y2 y3 ah = some out) (hR : ∀ q, out = .inl q → jRetN q.1 q.2) (hX : ∀ q, out = .inr (.inl q) → J l g md_X0_seek (jRm (d + 10) md_X0_seek) Q 55 [(0, .inr (.inr (.inl k0))), (2, .inl k2)] [] q.2 (0, 0)) (hN : ∀ q, out = .inr (.inr q) → J l g md_X0_seek (jRm (d + 10) md_X0_seek) Q 16 [(0, .inr (.inr (.inl k0))), (1, .inr (.inr (.inl k1))), (2, .inl k2), (3, .inl k3), (4, .inl q.1)] [] q.2 (0, 0)) : J l g md_X0_seek (jRm (d + 10) md_X0_seek) Q 47 [(0, .inr (.inr (.inl k0))), (1, .inr (.inr (.inl k1))), (2, .inl k2), (3, .inl k3), (4, .inl x4)] [.inl y0, .inl y1, .inl y2, .inr (.inr (.inl y3))] ah (0, 0) := by
  unfold f_X0_seek_b16_j47 at h
  refine J_seg ok_X0_seek 25 1 (pc' := 48) (ls' := [(0, .inr (.inr (.inl k0))), (1, .inr (.inr (.inl k1))), (2, .inl k2), (3, .inl k3), (4, .inl x4)]) (st' := [.inl (y1 ||| y0), .inl y2, .inr (.inr (.inl y3))]) rfl ?_
  obtain ⟨a12, h13, h⟩ := Option.bind_eq_some_iff.mp h
  refine J_iast (jat ok_X0_seek 26 (pc := 48) (i := .iastore) (n := 1) rfl rfl) h13 ?_
  refine J_seg ok_X0_seek 27 2 (pc' := 16) (ls' := [(4, .inl (x4 + 1)), (0, .inr (.inr (.inl k0))), (1, .inr (.inr (.inl k1))), (2, .inl k2), (3, .inl k3)]) (st' := []) rfl ?_
  exact J_sub (ls' := [(0, .inr (.inr (.inl k0))), (1, .inr (.inr (.inl k1))), (2, .inl k2), (3, .inl k3), (4, .inl (x4 + 1))]) [1, 2, 3, 4, 0] rfl (hN _ (Option.some.inj h).symm)
def f_X0_seek_b16 (k0 : Option Nat) (k1 : Option Nat) (k2 : Int32) (k3 : Int32) (s : Int32) (ah : AH) : Option ((Unit × AH) ⊕ (((Unit) × AH) ⊕ ((Int32) × AH))) :=
  if 6 ≤ s then (some (.inr (.inl ((), ah)))) else ((gR ah k0 0 1).bind fun v7 => if k3 = 0 then (if qO ah k1 1 = true then ((f_X1_lovedBy k1 s ah).bind fun q9 => f_X0_seek_b16_j47 k0 k1 k2 k3 s q9.1 (1 <<< (s &&& 31)) s v7 q9.2) else none) else (f_X0_seek_b16_j47 k0 k1 k2 k3 s 0 (1 <<< (s &&& 31)) s v7 ah))
set_option maxRecDepth 100000 in
set_option maxHeartbeats 4000000 in
theorem k_X0_seek_b16 {l : Launch} {g : GX} (d : Nat) {Q : jQ} {k0 : Option Nat} {k1 : Option Nat} {k2 : Int32} {k3 : Int32} (s : Int32) (ah : AH) (out : (Unit × AH) ⊕ (((Unit) × AH) ⊕ ((Int32) × AH))) (h : f_X0_seek_b16 k0 k1 k2 k3 s ah = some out) (hR : ∀ q, out = .inl q → jRetN q.1 q.2) (hX : ∀ q, out = .inr (.inl q) → J l g md_X0_seek (jRm (d + 10) md_X0_seek) Q 55 [(0, .inr (.inr (.inl k0))), (2, .inl k2)] [] q.2 (0, 0)) (hN : ∀ q, out = .inr (.inr q) → J l g md_X0_seek (jRm (d + 10) md_X0_seek) Q 16 [(0, .inr (.inr (.inl k0))), (1, .inr (.inr (.inl k1))), (2, .inl k2), (3, .inl k3), (4, .inl q.1)] [] q.2 (0, 0)) : J l g md_X0_seek (jRm (d + 10) md_X0_seek) Q 16 [(0, .inr (.inr (.inl k0))), (1, .inr (.inr (.inl k1))), (2, .inl k2), (3, .inl k3), (4, .inl s)] [] ah (0, 0) := by
  unfold f_X0_seek_b16 at h
  refine J_seg ok_X0_seek 9 2 (pc' := 20) (ls' := [(0, .inr (.inr (.inl k0))), (1, .inr (.inr (.inl k1))), (2, .inl k2), (3, .inl k3), (4, .inl s)]) (st' := [.inl 6, .inl s]) rfl ?_
  refine J_ge (jat ok_X0_seek 11 (pc := 20) (i := .if_icmp .ge 35) (n := 3) rfl rfl) (tgt := 55) (by decide) (fun c => ?_) (fun c => ?_)
  · have h := (if_pos c).symm.trans h
    exact J_sub (ls' := [(0, .inr (.inr (.inl k0))), (2, .inl k2)]) [0, 2] rfl (hX _ (Option.some.inj h).symm)
  · have h := (if_neg c).symm.trans h
    refine J_seg ok_X0_seek 12 1 (pc' := 24) (ls' := [(0, .inr (.inr (.inl k0))), (1, .inr (.inr (.inl k1))), (2, .inl k2), (3, .inl k3), (4, .inl s)]) (st' := [.inr (.inr (.inl k0))]) rfl ?_
    obtain ⟨v7, h8, h⟩ := Option.bind_eq_some_iff.mp h
    refine J_getR (jat ok_X0_seek 13 (pc := 24) (i := .getfield 15) (n := 3) rfl rfl) fl_RX0_15 h8 ?_
    refine J_seg ok_X0_seek 14 5 (pc' := 34) (ls' := [(0, .inr (.inr (.inl k0))), (1, .inr (.inr (.inl k1))), (2, .inl k2), (3, .inl k3), (4, .inl s)]) (st' := [.inl k3, .inl (1 <<< (s &&& 31)), .inl s, .inr (.inr (.inl v7))]) rfl ?_
    refine J_eq0 (jat ok_X0_seek 19 (pc := 34) (i := .ifCond .eq 7) (n := 3) rfl rfl) (tgt := 41) (by decide) (fun c => ?_) (fun c => ?_)
    · have h := (if_pos c).symm.trans h
      refine J_seg ok_X0_seek 22 2 (pc' := 44) (ls' := [(0, .inr (.inr (.inl k0))), (1, .inr (.inr (.inl k1))), (2, .inl k2), (3, .inl k3), (4, .inl s)]) (st' := [.inl s, .inr (.inr (.inl k1)), .inl (1 <<< (s &&& 31)), .inl s, .inr (.inr (.inl v7))]) rfl ?_
      by_cases c11 : qO ah k1 1 = true
      case neg => exact absurd ((if_neg c11).symm.trans h) (by simp)
      have h := (if_pos c11).symm.trans h
      obtain ⟨q9, h10, h⟩ := Option.bind_eq_some_iff.mp h
      refine J_callV (md' := md_X1_lovedBy) (As := [.inl s]) (st := [.inl (1 <<< (s &&& 31)), .inl s, .inr (.inr (.inl v7))]) (cs' := (0, 0)) (st' := [.inl q9.1, .inl (1 <<< (s &&& 31)), .inl s, .inr (.inr (.inl v7))]) (jat ok_X0_seek 24 (pc := 44) (i := .invokevirtual 31) (n := 3) rfl rfl) ml_RX0_31 yv_X1_lovedBy c11 (c_X1_lovedBy l g (d + 8) h10) (jRo_of (by decide)) (Nat.le_of_ble_eq_true rfl) ⟨Nat.le_of_ble_eq_true rfl, Nat.le_of_ble_eq_true rfl⟩ rfl rfl rfl ?_
      refine J_sub (ls' := [(0, .inr (.inr (.inl k0))), (1, .inr (.inr (.inl k1))), (2, .inl k2), (3, .inl k3), (4, .inl s)]) [0, 1, 2, 3, 4] rfl ?_
      exact k_X0_seek_b16_j47 d _ _ h hR hX hN
    · have h := (if_neg c).symm.trans h
      refine J_seg ok_X0_seek 20 2 (pc' := 47) (ls' := [(0, .inr (.inr (.inl k0))), (1, .inr (.inr (.inl k1))), (2, .inl k2), (3, .inl k3), (4, .inl s)]) (st' := [.inl 0, .inl (1 <<< (s &&& 31)), .inl s, .inr (.inr (.inl v7))]) rfl ?_
      refine J_sub (ls' := [(0, .inr (.inr (.inl k0))), (1, .inr (.inr (.inl k1))), (2, .inl k2), (3, .inl k3), (4, .inl s)]) [0, 1, 2, 3, 4] rfl ?_
      exact k_X0_seek_b16_j47 d _ _ h hR hX hN
def f_X0_seek (x0 : Option Nat) (x1 : Option Nat) (x2 : Int32) (x3 : Int32) (ah : AH) : Option (Unit × AH) :=
  (sF ah x0 0 3 (.inl 0)).bind fun a1 => (gI a1 x1 1 5).bind fun v3 => (sF a1 x0 0 4 (.inl v3)).bind fun a5 => (jloop (f_X0_seek_b16 x0 x1 x2 x3) jfuel 0 a5).bind fun q14 => match q14 with | .inl r => none | .inr x => (f_X0_draw x0 0 x2 0 x.2).bind fun q16 => some ((), q16.2)
set_option maxRecDepth 100000 in
set_option maxHeartbeats 4000000 in
theorem k_X0_seek {l : Launch} {g : GX} (d : Nat) {Q : jQ} {x0 : Option Nat} {x1 : Option Nat} {x2 : Int32} {x3 : Int32} (ah : AH) (out : Unit × AH) (h : f_X0_seek x0 x1 x2 x3 ah = some out) (hR : jRetV l g md_X0_seek (jRm (d + 10) md_X0_seek) Q (0, 0) out.1 out.2) : J l g md_X0_seek (jRm (d + 10) md_X0_seek) Q 0 [(0, .inr (.inr (.inl x0))), (1, .inr (.inr (.inl x1))), (2, .inl x2), (3, .inl x3)] [] ah (0, 0) := by
  unfold f_X0_seek at h
  refine J_seg ok_X0_seek 0 2 (pc' := 2) (ls' := [(0, .inr (.inr (.inl x0))), (1, .inr (.inr (.inl x1))), (2, .inl x2), (3, .inl x3)]) (st' := [.inl 0, .inr (.inr (.inl x0))]) rfl ?_
  obtain ⟨a1, h2, h⟩ := Option.bind_eq_some_iff.mp h
  refine J_put (jat ok_X0_seek 2 (pc := 2) (i := .putfield 21) (n := 3) rfl rfl) (fp_RX0_21 _) (jPV_int _) h2 ?_
  refine J_seg ok_X0_seek 3 2 (pc' := 7) (ls' := [(0, .inr (.inr (.inl x0))), (1, .inr (.inr (.inl x1))), (2, .inl x2), (3, .inl x3)]) (st' := [.inr (.inr (.inl x1)), .inr (.inr (.inl x0))]) rfl ?_
  obtain ⟨v3, h4, h⟩ := Option.bind_eq_some_iff.mp h
  refine J_getI (jat ok_X0_seek 5 (pc := 7) (i := .getfield 25) (n := 3) rfl rfl) fl_RX0_25 h4 ?_
  obtain ⟨a5, h6, h⟩ := Option.bind_eq_some_iff.mp h
  refine J_put (jat ok_X0_seek 6 (pc := 10) (i := .putfield 30) (n := 3) rfl rfl) (fp_RX0_30 _) (jPV_int _) h6 ?_
  refine J_seg ok_X0_seek 7 2 (pc' := 16) (ls' := [(4, .inl 0), (0, .inr (.inr (.inl x0))), (1, .inr (.inr (.inl x1))), (2, .inl x2), (3, .inl x3)]) (st' := []) rfl ?_
  obtain ⟨q14, h15, h⟩ := Option.bind_eq_some_iff.mp h
  refine J_sub (ls' := [(0, .inr (.inr (.inl x0))), (1, .inr (.inr (.inl x1))), (2, .inl x2), (3, .inl x3), (4, .inl 0)]) [1, 2, 3, 4, 0] rfl ?_
  refine J_loop (pE := 55) (lh := fun s => [(0, .inr (.inr (.inl x0))), (1, .inr (.inr (.inl x1))), (2, .inl x2), (3, .inl x3), (4, .inl s)]) (lx := fun x => [(0, .inr (.inr (.inl x0))), (2, .inl x2)]) (P := jRetN) (fun s ah out hb hR hX hN => k_X0_seek_b16 d s ah out hb hR hX hN) jfuel 0 _ _ h15 (fun r e => ?_) (fun x e => ?_)
  · subst e
    dsimp only at h
    cases h
  · subst e
    dsimp only at h
    refine J_seg ok_X0_seek 29 4 (pc' := 59) (ls' := [(0, .inr (.inr (.inl x0))), (2, .inl x2)]) (st' := [.inl 0, .inl x2, .inl 0, .inr (.inr (.inl x0))]) rfl ?_
    obtain ⟨q16, h17, h⟩ := Option.bind_eq_some_iff.mp h
    refine J_callS (md' := md_X0_draw) (As := [.inr (.inr (.inl x0)), .inl 0, .inl x2, .inl 0]) (st := []) (cs' := (0, 0)) (st' := []) (jat ok_X0_seek 33 (pc := 59) (i := .invokestatic 35) (n := 3) rfl rfl) (Or.inl ml_RX0_35) ys_X0_draw (c_X0_draw l g (d + 0) h17) (jRo_of (by decide)) (Nat.le_of_ble_eq_true rfl) ⟨Nat.le_of_ble_eq_true rfl, Nat.le_of_ble_eq_true rfl⟩ rfl rfl rfl ?_
    have h := Option.some.inj h
    subst h
    exact hR _ _ (jat ok_X0_seek 34 (pc := 62) (i := .return_) (n := 1) rfl rfl)
theorem c_X0_seek (l : Launch) (g : GX) (d : Nat) {x0 : Option Nat} {x1 : Option Nat} {x2 : Int32} {x3 : Int32} {ah : AH} {q : Unit × AH} (h : f_X0_seek x0 x1 x2 x3 ah = some q) : jM l g (d + 10) md_X0_seek [.inr (.inr (.inl x0)), .inr (.inr (.inl x1)), .inl x2, .inl x3] ah none q.2 :=
  jM_of (by decide) (Nat.le_of_ble_eq_true rfl) (k_X0_seek d ah q h (fun pc ls hd => J_retv hd rfl rfl (Nat.le_refl _) rfl rfl))
def f_X0_victimIn (x0 : Option Nat) (x1 : Int32) (x2 : Int32) (ah : AH) : Option (Int32 × AH) :=
  if x1 < 0 then (some ((-9), ah)) else ((gI ah x0 0 3).bind fun v1 => if v1 ≤ x1 then (some ((-9), ah)) else (if x1 < 320 then ((gR ah x0 0 0).bind fun v3 => (gA ah v3 x1).bind fun v5 => if ((v5 >>> ((3 * x2) &&& 31)) &&& 7) = 7 then (some ((-9), ah)) else (some ((v5 >>> ((3 * x2) &&& 31)) &&& 7, ah))) else (some ((-9), ah))))
set_option maxRecDepth 100000 in
set_option maxHeartbeats 4000000 in
theorem k_X0_victimIn {l : Launch} {g : GX} (d : Nat) {Q : jQ} {x0 : Option Nat} {x1 : Int32} {x2 : Int32} (ah : AH) (out : Int32 × AH) (h : f_X0_victimIn x0 x1 x2 ah = some out) (hR : jRetI l g md_X0_victimIn (jRm (d + 0) md_X0_victimIn) Q (0, 0) out.1 out.2) : J l g md_X0_victimIn (jRm (d + 0) md_X0_victimIn) Q 0 [(0, .inr (.inr (.inl x0))), (1, .inl x1), (2, .inl x2)] [] ah (0, 0) := by
  unfold f_X0_victimIn at h
  refine J_seg ok_X0_victimIn 0 1 (pc' := 1) (ls' := [(0, .inr (.inr (.inl x0))), (1, .inl x1), (2, .inl x2)]) (st' := [.inl x1]) rfl ?_
  refine J_lt0 (jat ok_X0_victimIn 1 (pc := 1) (i := .ifCond .lt 18) (n := 3) rfl rfl) (tgt := 19) (by decide) (fun c => ?_) (fun c => ?_)
  · have h := (if_pos c).symm.trans h
    refine J_seg ok_X0_victimIn 9 1 (pc' := 21) (ls' := [(0, .inr (.inr (.inl x0))), (1, .inl x1), (2, .inl x2)]) (st' := [.inl (-9)]) rfl ?_
    have h := Option.some.inj h
    subst h
    exact hR _ _ (jat ok_X0_victimIn 10 (pc := 21) (i := .ireturn) (n := 1) rfl rfl)
  · have h := (if_neg c).symm.trans h
    refine J_seg ok_X0_victimIn 2 2 (pc' := 6) (ls' := [(0, .inr (.inr (.inl x0))), (1, .inl x1), (2, .inl x2)]) (st' := [.inr (.inr (.inl x0)), .inl x1]) rfl ?_
    obtain ⟨v1, h2, h⟩ := Option.bind_eq_some_iff.mp h
    refine J_getI (jat ok_X0_victimIn 4 (pc := 6) (i := .getfield 21) (n := 3) rfl rfl) fl_RX0_21 h2 ?_
    refine J_ge (jat ok_X0_victimIn 5 (pc := 9) (i := .if_icmp .ge 10) (n := 3) rfl rfl) (tgt := 19) (by decide) (fun c => ?_) (fun c => ?_)
    · have h := (if_pos c).symm.trans h
      refine J_seg ok_X0_victimIn 9 1 (pc' := 21) (ls' := [(0, .inr (.inr (.inl x0))), (1, .inl x1), (2, .inl x2)]) (st' := [.inl (-9)]) rfl ?_
      have h := Option.some.inj h
      subst h
      exact hR _ _ (jat ok_X0_victimIn 10 (pc := 21) (i := .ireturn) (n := 1) rfl rfl)
    · have h := (if_neg c).symm.trans h
      refine J_seg ok_X0_victimIn 6 2 (pc' := 16) (ls' := [(0, .inr (.inr (.inl x0))), (1, .inl x1), (2, .inl x2)]) (st' := [.inl 320, .inl x1]) rfl ?_
      refine J_lt (jat ok_X0_victimIn 8 (pc := 16) (i := .if_icmp .lt 6) (n := 3) rfl rfl) (tgt := 22) (by decide) (fun c => ?_) (fun c => ?_)
      · have h := (if_pos c).symm.trans h
        refine J_seg ok_X0_victimIn 11 1 (pc' := 23) (ls' := [(0, .inr (.inr (.inl x0))), (1, .inl x1), (2, .inl x2)]) (st' := [.inr (.inr (.inl x0))]) rfl ?_
        obtain ⟨v3, h4, h⟩ := Option.bind_eq_some_iff.mp h
        refine J_getR (jat ok_X0_victimIn 12 (pc := 23) (i := .getfield 9) (n := 3) rfl rfl) fl_RX0_9 h4 ?_
        refine J_seg ok_X0_victimIn 13 1 (pc' := 27) (ls' := [(0, .inr (.inr (.inl x0))), (1, .inl x1), (2, .inl x2)]) (st' := [.inl x1, .inr (.inr (.inl v3))]) rfl ?_
        obtain ⟨v5, h6, h⟩ := Option.bind_eq_some_iff.mp h
        refine J_iald (jat ok_X0_victimIn 14 (pc := 27) (i := .iaload) (n := 1) rfl rfl) h6 ?_
        refine J_seg ok_X0_victimIn 15 9 (pc' := 39) (ls' := [(3, .inl ((v5 >>> ((3 * x2) &&& 31)) &&& 7)), (0, .inr (.inr (.inl x0))), (1, .inl x1), (2, .inl x2)]) (st' := [.inl 7, .inl ((v5 >>> ((3 * x2) &&& 31)) &&& 7)]) rfl ?_
        refine J_ne (jat ok_X0_victimIn 24 (pc := 39) (i := .if_icmp .ne 8) (n := 3) rfl rfl) (tgt := 47) (by decide) (fun c => ?_) (fun c => ?_)
        · have h := (if_neg c).symm.trans h
          refine J_seg ok_X0_victimIn 27 1 (pc' := 48) (ls' := [(3, .inl ((v5 >>> ((3 * x2) &&& 31)) &&& 7)), (0, .inr (.inr (.inl x0))), (1, .inl x1), (2, .inl x2)]) (st' := [.inl ((v5 >>> ((3 * x2) &&& 31)) &&& 7)]) rfl ?_
          have h := Option.some.inj h
          subst h
          exact hR _ _ (jat ok_X0_victimIn 28 (pc := 48) (i := .ireturn) (n := 1) rfl rfl)
        · have h := (if_pos c).symm.trans h
          refine J_seg ok_X0_victimIn 25 2 (pc' := 48) (ls' := [(3, .inl ((v5 >>> ((3 * x2) &&& 31)) &&& 7)), (0, .inr (.inr (.inl x0))), (1, .inl x1), (2, .inl x2)]) (st' := [.inl (-9)]) rfl ?_
          have h := Option.some.inj h
          subst h
          exact hR _ _ (jat ok_X0_victimIn 28 (pc := 48) (i := .ireturn) (n := 1) rfl rfl)
      · have h := (if_neg c).symm.trans h
        refine J_seg ok_X0_victimIn 9 1 (pc' := 21) (ls' := [(0, .inr (.inr (.inl x0))), (1, .inl x1), (2, .inl x2)]) (st' := [.inl (-9)]) rfl ?_
        have h := Option.some.inj h
        subst h
        exact hR _ _ (jat ok_X0_victimIn 10 (pc := 21) (i := .ireturn) (n := 1) rfl rfl)
theorem c_X0_victimIn (l : Launch) (g : GX) (d : Nat) {x0 : Option Nat} {x1 : Int32} {x2 : Int32} {ah : AH} {q : Int32 × AH} (h : f_X0_victimIn x0 x1 x2 ah = some q) : jM l g (d + 0) md_X0_victimIn [.inr (.inr (.inl x0)), .inl x1, .inl x2] ah (some (.inl q.1)) q.2 :=
  jM_of (by decide) (Nat.le_of_ble_eq_true rfl) (k_X0_victimIn d ah q h (fun pc ls hd => J_reti hd rfl (jPV_int _) rfl (Nat.le_refl _) rfl rfl))
def f_X0_victimsOf_b5 (k0 : Option Nat) (k1 : Int32) (k2 : Int32) (s : Int32 × Int32) (ah : AH) : Option ((Unit × AH) ⊕ (((Int32) × AH) ⊕ ((Int32 × Int32) × AH))) :=
  (gI ah k0 0 4).bind fun v1 => if v1 ≤ s.2 then (some (.inr (.inl (s.1, ah)))) else (if ((k2 >>> (s.2 &&& 31)) &&& 1) = 1 then (some (.inr (.inr ((s.1 ||| (1 <<< (((k1 >>> ((3 * s.2) &&& 31)) &&& 7) &&& 31)), s.2 + 1), ah)))) else (some (.inr (.inr ((s.1, s.2 + 1), ah)))))
set_option maxRecDepth 100000 in
set_option maxHeartbeats 4000000 in
theorem k_X0_victimsOf_b5 {l : Launch} {g : GX} (d : Nat) {Q : jQ} {k0 : Option Nat} {k1 : Int32} {k2 : Int32} (s : Int32 × Int32) (ah : AH) (out : (Unit × AH) ⊕ (((Int32) × AH) ⊕ ((Int32 × Int32) × AH))) (h : f_X0_victimsOf_b5 k0 k1 k2 s ah = some out) (hR : ∀ q, out = .inl q → jRetN q.1 q.2) (hX : ∀ q, out = .inr (.inl q) → J l g md_X0_victimsOf (jRm (d + 0) md_X0_victimsOf) Q 44 [(3, .inl q.1)] [] q.2 (0, 0)) (hN : ∀ q, out = .inr (.inr q) → J l g md_X0_victimsOf (jRm (d + 0) md_X0_victimsOf) Q 5 [(0, .inr (.inr (.inl k0))), (1, .inl k1), (2, .inl k2), (3, .inl q.1.1), (4, .inl q.1.2)] [] q.2 (0, 0)) : J l g md_X0_victimsOf (jRm (d + 0) md_X0_victimsOf) Q 5 [(0, .inr (.inr (.inl k0))), (1, .inl k1), (2, .inl k2), (3, .inl s.1), (4, .inl s.2)] [] ah (0, 0) := by
  unfold f_X0_victimsOf_b5 at h
  refine J_seg ok_X0_victimsOf 4 2 (pc' := 8) (ls' := [(0, .inr (.inr (.inl k0))), (1, .inl k1), (2, .inl k2), (3, .inl s.1), (4, .inl s.2)]) (st' := [.inr (.inr (.inl k0)), .inl s.2]) rfl ?_
  obtain ⟨v1, h2, h⟩ := Option.bind_eq_some_iff.mp h
  refine J_getI (jat ok_X0_victimsOf 6 (pc := 8) (i := .getfield 30) (n := 3) rfl rfl) fl_RX0_30 h2 ?_
  refine J_ge (jat ok_X0_victimsOf 7 (pc := 11) (i := .if_icmp .ge 33) (n := 3) rfl rfl) (tgt := 44) (by decide) (fun c => ?_) (fun c => ?_)
  · have h := (if_pos c).symm.trans h
    exact J_sub (ls' := [(3, .inl s.1)]) [3] rfl (hX _ (Option.some.inj h).symm)
  · have h := (if_neg c).symm.trans h
    refine J_seg ok_X0_victimsOf 8 6 (pc' := 21) (ls' := [(0, .inr (.inr (.inl k0))), (1, .inl k1), (2, .inl k2), (3, .inl s.1), (4, .inl s.2)]) (st' := [.inl 1, .inl ((k2 >>> (s.2 &&& 31)) &&& 1)]) rfl ?_
    refine J_ne (jat ok_X0_victimsOf 14 (pc := 21) (i := .if_icmp .ne 17) (n := 3) rfl rfl) (tgt := 38) (by decide) (fun c => ?_) (fun c => ?_)
    · have h := (if_neg c).symm.trans h
      refine J_seg ok_X0_victimsOf 27 2 (pc' := 5) (ls' := [(4, .inl (s.2 + 1)), (0, .inr (.inr (.inl k0))), (1, .inl k1), (2, .inl k2), (3, .inl s.1)]) (st' := []) rfl ?_
      exact J_sub (ls' := [(0, .inr (.inr (.inl k0))), (1, .inl k1), (2, .inl k2), (3, .inl s.1), (4, .inl (s.2 + 1))]) [1, 2, 3, 4, 0] rfl (hN _ (Option.some.inj h).symm)
    · have h := (if_pos c).symm.trans h
      refine J_seg ok_X0_victimsOf 15 14 (pc' := 5) (ls' := [(4, .inl (s.2 + 1)), (3, .inl (s.1 ||| (1 <<< (((k1 >>> ((3 * s.2) &&& 31)) &&& 7) &&& 31)))), (0, .inr (.inr (.inl k0))), (1, .inl k1), (2, .inl k2)]) (st' := []) rfl ?_
      exact J_sub (ls' := [(0, .inr (.inr (.inl k0))), (1, .inl k1), (2, .inl k2), (3, .inl (s.1 ||| (1 <<< (((k1 >>> ((3 * s.2) &&& 31)) &&& 7) &&& 31)))), (4, .inl (s.2 + 1))]) [2, 3, 4, 1, 0] rfl (hN _ (Option.some.inj h).symm)
def f_X0_victimsOf (x0 : Option Nat) (x1 : Int32) (x2 : Int32) (ah : AH) : Option (Int32 × AH) :=
  (jloop (f_X0_victimsOf_b5 x0 x1 x2) jfuel (0, 0) ah).bind fun q3 => match q3 with | .inl r => none | .inr x => some (x.1, x.2)
set_option maxRecDepth 100000 in
set_option maxHeartbeats 4000000 in
theorem k_X0_victimsOf {l : Launch} {g : GX} (d : Nat) {Q : jQ} {x0 : Option Nat} {x1 : Int32} {x2 : Int32} (ah : AH) (out : Int32 × AH) (h : f_X0_victimsOf x0 x1 x2 ah = some out) (hR : jRetI l g md_X0_victimsOf (jRm (d + 0) md_X0_victimsOf) Q (0, 0) out.1 out.2) : J l g md_X0_victimsOf (jRm (d + 0) md_X0_victimsOf) Q 0 [(0, .inr (.inr (.inl x0))), (1, .inl x1), (2, .inl x2)] [] ah (0, 0) := by
  unfold f_X0_victimsOf at h
  refine J_seg ok_X0_victimsOf 0 4 (pc' := 5) (ls' := [(4, .inl 0), (3, .inl 0), (0, .inr (.inr (.inl x0))), (1, .inl x1), (2, .inl x2)]) (st' := []) rfl ?_
  obtain ⟨q3, h4, h⟩ := Option.bind_eq_some_iff.mp h
  refine J_sub (ls' := [(0, .inr (.inr (.inl x0))), (1, .inl x1), (2, .inl x2), (3, .inl 0), (4, .inl 0)]) [2, 3, 4, 1, 0] rfl ?_
  refine J_loop (pE := 44) (lh := fun s => [(0, .inr (.inr (.inl x0))), (1, .inl x1), (2, .inl x2), (3, .inl s.1), (4, .inl s.2)]) (lx := fun x => [(3, .inl x)]) (P := jRetN) (fun s ah out hb hR hX hN => k_X0_victimsOf_b5 d s ah out hb hR hX hN) jfuel (0, 0) _ _ h4 (fun r e => ?_) (fun x e => ?_)
  · subst e
    dsimp only at h
    cases h
  · subst e
    dsimp only at h
    refine J_seg ok_X0_victimsOf 29 1 (pc' := 45) (ls' := [(3, .inl x.1)]) (st' := [.inl x.1]) rfl ?_
    have h := Option.some.inj h
    subst h
    exact hR _ _ (jat ok_X0_victimsOf 30 (pc := 45) (i := .ireturn) (n := 1) rfl rfl)
theorem c_X0_victimsOf (l : Launch) (g : GX) (d : Nat) {x0 : Option Nat} {x1 : Int32} {x2 : Int32} {ah : AH} {q : Int32 × AH} (h : f_X0_victimsOf x0 x1 x2 ah = some q) : jM l g (d + 0) md_X0_victimsOf [.inr (.inr (.inl x0)), .inl x1, .inl x2] ah (some (.inl q.1)) q.2 :=
  jM_of (by decide) (Nat.le_of_ble_eq_true rfl) (k_X0_victimsOf d ah q h (fun pc ls hd => J_reti hd rfl (jPV_int _) rfl (Nat.le_refl _) rfl rfl))
def f_X0_retain_b5 (k0 : Option Nat) (k1 : Int32) (k2 : Int32) (s : Int32 × Int32) (ah : AH) : Option ((Unit × AH) ⊕ (((Int32) × AH) ⊕ ((Int32 × Int32) × AH))) :=
  (gI ah k0 0 3).bind fun v1 => if v1 ≤ s.2 then (some (.inr (.inl (s.1, ah)))) else (if 320 ≤ s.2 then (some (.inr (.inl (s.1, ah)))) else ((gR ah k0 0 0).bind fun v3 => (gA ah v3 s.2).bind fun v5 => if qO ah k0 0 = true then ((f_X0_victimsOf k0 v5 k1 ah).bind fun q7 => if q7.1 = k2 then ((gR q7.2 k0 0 0).bind fun v10 => (gR q7.2 k0 0 0).bind fun v12 => (gA q7.2 v12 s.2).bind fun v14 => (sA q7.2 v10 s.1 v14).bind fun a16 => some (.inr (.inr ((s.1 + 1, s.2 + 1), a16)))) else (some (.inr (.inr ((s.1, s.2 + 1), q7.2))))) else none))
set_option maxRecDepth 100000 in
set_option maxHeartbeats 4000000 in
theorem k_X0_retain_b5 {l : Launch} {g : GX} (d : Nat) {Q : jQ} {k0 : Option Nat} {k1 : Int32} {k2 : Int32} (s : Int32 × Int32) (ah : AH) (out : (Unit × AH) ⊕ (((Int32) × AH) ⊕ ((Int32 × Int32) × AH))) (h : f_X0_retain_b5 k0 k1 k2 s ah = some out) (hR : ∀ q, out = .inl q → jRetN q.1 q.2) (hX : ∀ q, out = .inr (.inl q) → J l g md_X0_retain (jRm (d + 1) md_X0_retain) Q 60 [(0, .inr (.inr (.inl k0))), (3, .inl q.1)] [] q.2 (0, 0)) (hN : ∀ q, out = .inr (.inr q) → J l g md_X0_retain (jRm (d + 1) md_X0_retain) Q 5 [(0, .inr (.inr (.inl k0))), (1, .inl k1), (2, .inl k2), (3, .inl q.1.1), (4, .inl q.1.2)] [] q.2 (0, 0)) : J l g md_X0_retain (jRm (d + 1) md_X0_retain) Q 5 [(0, .inr (.inr (.inl k0))), (1, .inl k1), (2, .inl k2), (3, .inl s.1), (4, .inl s.2)] [] ah (0, 0) := by
  unfold f_X0_retain_b5 at h
  refine J_seg ok_X0_retain 4 2 (pc' := 8) (ls' := [(0, .inr (.inr (.inl k0))), (1, .inl k1), (2, .inl k2), (3, .inl s.1), (4, .inl s.2)]) (st' := [.inr (.inr (.inl k0)), .inl s.2]) rfl ?_
  obtain ⟨v1, h2, h⟩ := Option.bind_eq_some_iff.mp h
  refine J_getI (jat ok_X0_retain 6 (pc := 8) (i := .getfield 21) (n := 3) rfl rfl) fl_RX0_21 h2 ?_
  refine J_ge (jat ok_X0_retain 7 (pc := 11) (i := .if_icmp .ge 49) (n := 3) rfl rfl) (tgt := 60) (by decide) (fun c => ?_) (fun c => ?_)
  · have h := (if_pos c).symm.trans h
    exact J_sub (ls' := [(0, .inr (.inr (.inl k0))), (3, .inl s.1)]) [0, 3] rfl (hX _ (Option.some.inj h).symm)
  · have h := (if_neg c).symm.trans h
    refine J_seg ok_X0_retain 8 2 (pc' := 19) (ls' := [(0, .inr (.inr (.inl k0))), (1, .inl k1), (2, .inl k2), (3, .inl s.1), (4, .inl s.2)]) (st' := [.inl 320, .inl s.2]) rfl ?_
    refine J_ge (jat ok_X0_retain 10 (pc := 19) (i := .if_icmp .ge 41) (n := 3) rfl rfl) (tgt := 60) (by decide) (fun c => ?_) (fun c => ?_)
    · have h := (if_pos c).symm.trans h
      exact J_sub (ls' := [(0, .inr (.inr (.inl k0))), (3, .inl s.1)]) [0, 3] rfl (hX _ (Option.some.inj h).symm)
    · have h := (if_neg c).symm.trans h
      refine J_seg ok_X0_retain 11 2 (pc' := 24) (ls' := [(0, .inr (.inr (.inl k0))), (1, .inl k1), (2, .inl k2), (3, .inl s.1), (4, .inl s.2)]) (st' := [.inr (.inr (.inl k0)), .inr (.inr (.inl k0))]) rfl ?_
      obtain ⟨v3, h4, h⟩ := Option.bind_eq_some_iff.mp h
      refine J_getR (jat ok_X0_retain 13 (pc := 24) (i := .getfield 9) (n := 3) rfl rfl) fl_RX0_9 h4 ?_
      refine J_seg ok_X0_retain 14 1 (pc' := 29) (ls' := [(0, .inr (.inr (.inl k0))), (1, .inl k1), (2, .inl k2), (3, .inl s.1), (4, .inl s.2)]) (st' := [.inl s.2, .inr (.inr (.inl v3)), .inr (.inr (.inl k0))]) rfl ?_
      obtain ⟨v5, h6, h⟩ := Option.bind_eq_some_iff.mp h
      refine J_iald (jat ok_X0_retain 15 (pc := 29) (i := .iaload) (n := 1) rfl rfl) h6 ?_
      refine J_seg ok_X0_retain 16 1 (pc' := 31) (ls' := [(0, .inr (.inr (.inl k0))), (1, .inl k1), (2, .inl k2), (3, .inl s.1), (4, .inl s.2)]) (st' := [.inl k1, .inl v5, .inr (.inr (.inl k0))]) rfl ?_
      by_cases c9 : qO ah k0 0 = true
      case neg => exact absurd ((if_neg c9).symm.trans h) (by simp)
      have h := (if_pos c9).symm.trans h
      obtain ⟨q7, h8, h⟩ := Option.bind_eq_some_iff.mp h
      refine J_callV (md' := md_X0_victimsOf) (As := [.inl v5, .inl k1]) (st := []) (cs' := (0, 0)) (st' := [.inl q7.1]) (jat ok_X0_retain 17 (pc := 31) (i := .invokevirtual 52) (n := 3) rfl rfl) ml_RX0_52 yv_X0_victimsOf c9 (c_X0_victimsOf l g (d + 0) h8) (jRo_of (by decide)) (Nat.le_of_ble_eq_true rfl) ⟨Nat.le_of_ble_eq_true rfl, Nat.le_of_ble_eq_true rfl⟩ rfl rfl rfl ?_
      refine J_seg ok_X0_retain 18 1 (pc' := 35) (ls' := [(0, .inr (.inr (.inl k0))), (1, .inl k1), (2, .inl k2), (3, .inl s.1), (4, .inl s.2)]) (st' := [.inl k2, .inl q7.1]) rfl ?_
      refine J_ne (jat ok_X0_retain 19 (pc := 35) (i := .if_icmp .ne 19) (n := 3) rfl rfl) (tgt := 54) (by decide) (fun c => ?_) (fun c => ?_)
      · have h := (if_neg c).symm.trans h
        refine J_seg ok_X0_retain 29 2 (pc' := 5) (ls' := [(4, .inl (s.2 + 1)), (0, .inr (.inr (.inl k0))), (1, .inl k1), (2, .inl k2), (3, .inl s.1)]) (st' := []) rfl ?_
        exact J_sub (ls' := [(0, .inr (.inr (.inl k0))), (1, .inl k1), (2, .inl k2), (3, .inl s.1), (4, .inl (s.2 + 1))]) [1, 2, 3, 4, 0] rfl (hN _ (Option.some.inj h).symm)
      · have h := (if_pos c).symm.trans h
        refine J_seg ok_X0_retain 20 1 (pc' := 39) (ls' := [(0, .inr (.inr (.inl k0))), (1, .inl k1), (2, .inl k2), (3, .inl s.1), (4, .inl s.2)]) (st' := [.inr (.inr (.inl k0))]) rfl ?_
        obtain ⟨v10, h11, h⟩ := Option.bind_eq_some_iff.mp h
        refine J_getR (jat ok_X0_retain 21 (pc := 39) (i := .getfield 9) (n := 3) rfl rfl) fl_RX0_9 h11 ?_
        refine J_seg ok_X0_retain 22 2 (pc' := 44) (ls' := [(0, .inr (.inr (.inl k0))), (1, .inl k1), (2, .inl k2), (3, .inl s.1), (4, .inl s.2)]) (st' := [.inr (.inr (.inl k0)), .inl s.1, .inr (.inr (.inl v10))]) rfl ?_
        obtain ⟨v12, h13, h⟩ := Option.bind_eq_some_iff.mp h
        refine J_getR (jat ok_X0_retain 24 (pc := 44) (i := .getfield 9) (n := 3) rfl rfl) fl_RX0_9 h13 ?_
        refine J_seg ok_X0_retain 25 1 (pc' := 49) (ls' := [(0, .inr (.inr (.inl k0))), (1, .inl k1), (2, .inl k2), (3, .inl s.1), (4, .inl s.2)]) (st' := [.inl s.2, .inr (.inr (.inl v12)), .inl s.1, .inr (.inr (.inl v10))]) rfl ?_
        obtain ⟨v14, h15, h⟩ := Option.bind_eq_some_iff.mp h
        refine J_iald (jat ok_X0_retain 26 (pc := 49) (i := .iaload) (n := 1) rfl rfl) h15 ?_
        obtain ⟨a16, h17, h⟩ := Option.bind_eq_some_iff.mp h
        refine J_iast (jat ok_X0_retain 27 (pc := 50) (i := .iastore) (n := 1) rfl rfl) h17 ?_
        refine J_seg ok_X0_retain 28 3 (pc' := 5) (ls' := [(4, .inl (s.2 + 1)), (3, .inl (s.1 + 1)), (0, .inr (.inr (.inl k0))), (1, .inl k1), (2, .inl k2)]) (st' := []) rfl ?_
        exact J_sub (ls' := [(0, .inr (.inr (.inl k0))), (1, .inl k1), (2, .inl k2), (3, .inl (s.1 + 1)), (4, .inl (s.2 + 1))]) [2, 3, 4, 1, 0] rfl (hN _ (Option.some.inj h).symm)
def f_X0_retain_j60 (x0 : Option Nat) (x3 : Int32) (ah : AH) : Option (Unit × AH) :=
  (sF ah x0 0 3 (.inl x3)).bind fun a20 => some ((), a20)
set_option maxRecDepth 100000 in
set_option maxHeartbeats 4000000 in
theorem k_X0_retain_j60 {l : Launch} {g : GX} (d : Nat) {Q : jQ} {x0 : Option Nat} {x3 : Int32} (ah : AH) (out : Unit × AH) (h : f_X0_retain_j60 x0 x3 ah = some out) (hR : jRetV l g md_X0_retain (jRm (d + 1) md_X0_retain) Q (0, 0) out.1 out.2) : J l g md_X0_retain (jRm (d + 1) md_X0_retain) Q 60 [(0, .inr (.inr (.inl x0))), (3, .inl x3)] [] ah (0, 0) := by
  unfold f_X0_retain_j60 at h
  refine J_seg ok_X0_retain 31 2 (pc' := 62) (ls' := [(0, .inr (.inr (.inl x0))), (3, .inl x3)]) (st' := [.inl x3, .inr (.inr (.inl x0))]) rfl ?_
  obtain ⟨a20, h21, h⟩ := Option.bind_eq_some_iff.mp h
  refine J_put (jat ok_X0_retain 33 (pc := 62) (i := .putfield 21) (n := 3) rfl rfl) (fp_RX0_21 _) (jPV_int _) h21 ?_
  have h := Option.some.inj h
  subst h
  exact hR _ _ (jat ok_X0_retain 34 (pc := 65) (i := .return_) (n := 1) rfl rfl)
def f_X0_retain (x0 : Option Nat) (x1 : Int32) (x2 : Int32) (ah : AH) : Option (Unit × AH) :=
  (jloop (f_X0_retain_b5 x0 x1 x2) jfuel (0, 0) ah).bind fun q18 => match q18 with | .inl r => none | .inr x => f_X0_retain_j60 x0 x.1 x.2
set_option maxRecDepth 100000 in
set_option maxHeartbeats 4000000 in
theorem k_X0_retain {l : Launch} {g : GX} (d : Nat) {Q : jQ} {x0 : Option Nat} {x1 : Int32} {x2 : Int32} (ah : AH) (out : Unit × AH) (h : f_X0_retain x0 x1 x2 ah = some out) (hR : jRetV l g md_X0_retain (jRm (d + 1) md_X0_retain) Q (0, 0) out.1 out.2) : J l g md_X0_retain (jRm (d + 1) md_X0_retain) Q 0 [(0, .inr (.inr (.inl x0))), (1, .inl x1), (2, .inl x2)] [] ah (0, 0) := by
  unfold f_X0_retain at h
  refine J_seg ok_X0_retain 0 4 (pc' := 5) (ls' := [(4, .inl 0), (3, .inl 0), (0, .inr (.inr (.inl x0))), (1, .inl x1), (2, .inl x2)]) (st' := []) rfl ?_
  obtain ⟨q18, h19, h⟩ := Option.bind_eq_some_iff.mp h
  refine J_sub (ls' := [(0, .inr (.inr (.inl x0))), (1, .inl x1), (2, .inl x2), (3, .inl 0), (4, .inl 0)]) [2, 3, 4, 1, 0] rfl ?_
  refine J_loop (pE := 60) (lh := fun s => [(0, .inr (.inr (.inl x0))), (1, .inl x1), (2, .inl x2), (3, .inl s.1), (4, .inl s.2)]) (lx := fun x => [(0, .inr (.inr (.inl x0))), (3, .inl x)]) (P := jRetN) (fun s ah out hb hR hX hN => k_X0_retain_b5 d s ah out hb hR hX hN) jfuel (0, 0) _ _ h19 (fun r e => ?_) (fun x e => ?_)
  · subst e
    dsimp only at h
    cases h
  · subst e
    dsimp only at h
    refine J_sub (ls' := [(0, .inr (.inr (.inl x0))), (3, .inl x.1)]) [0, 1] rfl ?_
    exact k_X0_retain_j60 d _ _ h hR
theorem c_X0_retain (l : Launch) (g : GX) (d : Nat) {x0 : Option Nat} {x1 : Int32} {x2 : Int32} {ah : AH} {q : Unit × AH} (h : f_X0_retain x0 x1 x2 ah = some q) : jM l g (d + 1) md_X0_retain [.inr (.inr (.inl x0)), .inl x1, .inl x2] ah none q.2 :=
  jM_of (by decide) (Nat.le_of_ble_eq_true rfl) (k_X0_retain d ah q h (fun pc ls hd => J_retv hd rfl rfl (Nat.le_refl _) rfl rfl))
def f_X0_countPair_b5 (k0 : Option Nat) (k1 : Int32) (k2 : Int32) (s : Int32 × Int32) (ah : AH) : Option ((Unit × AH) ⊕ (((Int32) × AH) ⊕ ((Int32 × Int32) × AH))) :=
  (gI ah k0 0 3).bind fun v1 => if v1 ≤ s.2 then (some (.inr (.inl (s.1, ah)))) else (if qO ah k0 0 = true then ((f_X0_victimIn k0 s.2 k1 ah).bind fun q3 => if q3.1 = k2 then (some (.inr (.inr ((s.1 + 1, s.2 + 1), q3.2)))) else (some (.inr (.inr ((s.1, s.2 + 1), q3.2))))) else none)
set_option maxRecDepth 100000 in
set_option maxHeartbeats 4000000 in
theorem k_X0_countPair_b5 {l : Launch} {g : GX} (d : Nat) {Q : jQ} {k0 : Option Nat} {k1 : Int32} {k2 : Int32} (s : Int32 × Int32) (ah : AH) (out : (Unit × AH) ⊕ (((Int32) × AH) ⊕ ((Int32 × Int32) × AH))) (h : f_X0_countPair_b5 k0 k1 k2 s ah = some out) (hR : ∀ q, out = .inl q → jRetN q.1 q.2) (hX : ∀ q, out = .inr (.inl q) → J l g md_X0_countPair (jRm (d + 1) md_X0_countPair) Q 34 [(3, .inl q.1)] [] q.2 (0, 0)) (hN : ∀ q, out = .inr (.inr q) → J l g md_X0_countPair (jRm (d + 1) md_X0_countPair) Q 5 [(0, .inr (.inr (.inl k0))), (1, .inl k1), (2, .inl k2), (3, .inl q.1.1), (4, .inl q.1.2)] [] q.2 (0, 0)) : J l g md_X0_countPair (jRm (d + 1) md_X0_countPair) Q 5 [(0, .inr (.inr (.inl k0))), (1, .inl k1), (2, .inl k2), (3, .inl s.1), (4, .inl s.2)] [] ah (0, 0) := by
  unfold f_X0_countPair_b5 at h
  refine J_seg ok_X0_countPair 4 2 (pc' := 8) (ls' := [(0, .inr (.inr (.inl k0))), (1, .inl k1), (2, .inl k2), (3, .inl s.1), (4, .inl s.2)]) (st' := [.inr (.inr (.inl k0)), .inl s.2]) rfl ?_
  obtain ⟨v1, h2, h⟩ := Option.bind_eq_some_iff.mp h
  refine J_getI (jat ok_X0_countPair 6 (pc := 8) (i := .getfield 21) (n := 3) rfl rfl) fl_RX0_21 h2 ?_
  refine J_ge (jat ok_X0_countPair 7 (pc := 11) (i := .if_icmp .ge 23) (n := 3) rfl rfl) (tgt := 34) (by decide) (fun c => ?_) (fun c => ?_)
  · have h := (if_pos c).symm.trans h
    exact J_sub (ls' := [(3, .inl s.1)]) [3] rfl (hX _ (Option.some.inj h).symm)
  · have h := (if_neg c).symm.trans h
    refine J_seg ok_X0_countPair 8 3 (pc' := 18) (ls' := [(0, .inr (.inr (.inl k0))), (1, .inl k1), (2, .inl k2), (3, .inl s.1), (4, .inl s.2)]) (st' := [.inl k1, .inl s.2, .inr (.inr (.inl k0))]) rfl ?_
    by_cases c5 : qO ah k0 0 = true
    case neg => exact absurd ((if_neg c5).symm.trans h) (by simp)
    have h := (if_pos c5).symm.trans h
    obtain ⟨q3, h4, h⟩ := Option.bind_eq_some_iff.mp h
    refine J_callV (md' := md_X0_victimIn) (As := [.inl s.2, .inl k1]) (st := []) (cs' := (0, 0)) (st' := [.inl q3.1]) (jat ok_X0_countPair 11 (pc := 18) (i := .invokevirtual 56) (n := 3) rfl rfl) ml_RX0_56 yv_X0_victimIn c5 (c_X0_victimIn l g (d + 0) h4) (jRo_of (by decide)) (Nat.le_of_ble_eq_true rfl) ⟨Nat.le_of_ble_eq_true rfl, Nat.le_of_ble_eq_true rfl⟩ rfl rfl rfl ?_
    refine J_seg ok_X0_countPair 12 1 (pc' := 22) (ls' := [(0, .inr (.inr (.inl k0))), (1, .inl k1), (2, .inl k2), (3, .inl s.1), (4, .inl s.2)]) (st' := [.inl k2, .inl q3.1]) rfl ?_
    refine J_ne (jat ok_X0_countPair 13 (pc := 22) (i := .if_icmp .ne 6) (n := 3) rfl rfl) (tgt := 28) (by decide) (fun c => ?_) (fun c => ?_)
    · have h := (if_neg c).symm.trans h
      refine J_seg ok_X0_countPair 15 2 (pc' := 5) (ls' := [(4, .inl (s.2 + 1)), (0, .inr (.inr (.inl k0))), (1, .inl k1), (2, .inl k2), (3, .inl s.1)]) (st' := []) rfl ?_
      exact J_sub (ls' := [(0, .inr (.inr (.inl k0))), (1, .inl k1), (2, .inl k2), (3, .inl s.1), (4, .inl (s.2 + 1))]) [1, 2, 3, 4, 0] rfl (hN _ (Option.some.inj h).symm)
    · have h := (if_pos c).symm.trans h
      refine J_seg ok_X0_countPair 14 3 (pc' := 5) (ls' := [(4, .inl (s.2 + 1)), (3, .inl (s.1 + 1)), (0, .inr (.inr (.inl k0))), (1, .inl k1), (2, .inl k2)]) (st' := []) rfl ?_
      exact J_sub (ls' := [(0, .inr (.inr (.inl k0))), (1, .inl k1), (2, .inl k2), (3, .inl (s.1 + 1)), (4, .inl (s.2 + 1))]) [2, 3, 4, 1, 0] rfl (hN _ (Option.some.inj h).symm)
def f_X0_countPair (x0 : Option Nat) (x1 : Int32) (x2 : Int32) (ah : AH) : Option (Int32 × AH) :=
  (jloop (f_X0_countPair_b5 x0 x1 x2) jfuel (0, 0) ah).bind fun q6 => match q6 with | .inl r => none | .inr x => some (x.1, x.2)
set_option maxRecDepth 100000 in
set_option maxHeartbeats 4000000 in
theorem k_X0_countPair {l : Launch} {g : GX} (d : Nat) {Q : jQ} {x0 : Option Nat} {x1 : Int32} {x2 : Int32} (ah : AH) (out : Int32 × AH) (h : f_X0_countPair x0 x1 x2 ah = some out) (hR : jRetI l g md_X0_countPair (jRm (d + 1) md_X0_countPair) Q (0, 0) out.1 out.2) : J l g md_X0_countPair (jRm (d + 1) md_X0_countPair) Q 0 [(0, .inr (.inr (.inl x0))), (1, .inl x1), (2, .inl x2)] [] ah (0, 0) := by
  unfold f_X0_countPair at h
  refine J_seg ok_X0_countPair 0 4 (pc' := 5) (ls' := [(4, .inl 0), (3, .inl 0), (0, .inr (.inr (.inl x0))), (1, .inl x1), (2, .inl x2)]) (st' := []) rfl ?_
  obtain ⟨q6, h7, h⟩ := Option.bind_eq_some_iff.mp h
  refine J_sub (ls' := [(0, .inr (.inr (.inl x0))), (1, .inl x1), (2, .inl x2), (3, .inl 0), (4, .inl 0)]) [2, 3, 4, 1, 0] rfl ?_
  refine J_loop (pE := 34) (lh := fun s => [(0, .inr (.inr (.inl x0))), (1, .inl x1), (2, .inl x2), (3, .inl s.1), (4, .inl s.2)]) (lx := fun x => [(3, .inl x)]) (P := jRetN) (fun s ah out hb hR hX hN => k_X0_countPair_b5 d s ah out hb hR hX hN) jfuel (0, 0) _ _ h7 (fun r e => ?_) (fun x e => ?_)
  · subst e
    dsimp only at h
    cases h
  · subst e
    dsimp only at h
    refine J_seg ok_X0_countPair 17 1 (pc' := 35) (ls' := [(3, .inl x.1)]) (st' := [.inl x.1]) rfl ?_
    have h := Option.some.inj h
    subst h
    exact hR _ _ (jat ok_X0_countPair 18 (pc := 35) (i := .ireturn) (n := 1) rfl rfl)
theorem c_X0_countPair (l : Launch) (g : GX) (d : Nat) {x0 : Option Nat} {x1 : Int32} {x2 : Int32} {ah : AH} {q : Int32 × AH} (h : f_X0_countPair x0 x1 x2 ah = some q) : jM l g (d + 1) md_X0_countPair [.inr (.inr (.inl x0)), .inl x1, .inl x2] ah (some (.inl q.1)) q.2 :=
  jM_of (by decide) (Nat.le_of_ble_eq_true rfl) (k_X0_countPair d ah q h (fun pc ls hd => J_reti hd rfl (jPV_int _) rfl (Nat.le_refl _) rfl rfl))
def f_X0_countMutual_b5 (k0 : Option Nat) (k1 : Int32) (k2 : Int32) (s : Int32 × Int32) (ah : AH) : Option ((Unit × AH) ⊕ (((Int32) × AH) ⊕ ((Int32 × Int32) × AH))) :=
  (gI ah k0 0 3).bind fun v1 => if v1 ≤ s.2 then (some (.inr (.inl (s.1, ah)))) else (if qO ah k0 0 = true then ((f_X0_victimIn k0 s.2 k1 ah).bind fun q3 => if q3.1 = k2 then (if qO q3.2 k0 0 = true then ((f_X0_victimIn k0 s.2 k2 q3.2).bind fun q6 => if q6.1 = k1 then (some (.inr (.inr ((s.1 + 1, s.2 + 1), q6.2)))) else (some (.inr (.inr ((s.1, s.2 + 1), q6.2))))) else none) else (some (.inr (.inr ((s.1, s.2 + 1), q3.2))))) else none)
set_option maxRecDepth 100000 in
set_option maxHeartbeats 4000000 in
theorem k_X0_countMutual_b5 {l : Launch} {g : GX} (d : Nat) {Q : jQ} {k0 : Option Nat} {k1 : Int32} {k2 : Int32} (s : Int32 × Int32) (ah : AH) (out : (Unit × AH) ⊕ (((Int32) × AH) ⊕ ((Int32 × Int32) × AH))) (h : f_X0_countMutual_b5 k0 k1 k2 s ah = some out) (hR : ∀ q, out = .inl q → jRetN q.1 q.2) (hX : ∀ q, out = .inr (.inl q) → J l g md_X0_countMutual (jRm (d + 1) md_X0_countMutual) Q 45 [(3, .inl q.1)] [] q.2 (0, 0)) (hN : ∀ q, out = .inr (.inr q) → J l g md_X0_countMutual (jRm (d + 1) md_X0_countMutual) Q 5 [(0, .inr (.inr (.inl k0))), (1, .inl k1), (2, .inl k2), (3, .inl q.1.1), (4, .inl q.1.2)] [] q.2 (0, 0)) : J l g md_X0_countMutual (jRm (d + 1) md_X0_countMutual) Q 5 [(0, .inr (.inr (.inl k0))), (1, .inl k1), (2, .inl k2), (3, .inl s.1), (4, .inl s.2)] [] ah (0, 0) := by
  unfold f_X0_countMutual_b5 at h
  refine J_seg ok_X0_countMutual 4 2 (pc' := 8) (ls' := [(0, .inr (.inr (.inl k0))), (1, .inl k1), (2, .inl k2), (3, .inl s.1), (4, .inl s.2)]) (st' := [.inr (.inr (.inl k0)), .inl s.2]) rfl ?_
  obtain ⟨v1, h2, h⟩ := Option.bind_eq_some_iff.mp h
  refine J_getI (jat ok_X0_countMutual 6 (pc := 8) (i := .getfield 21) (n := 3) rfl rfl) fl_RX0_21 h2 ?_
  refine J_ge (jat ok_X0_countMutual 7 (pc := 11) (i := .if_icmp .ge 34) (n := 3) rfl rfl) (tgt := 45) (by decide) (fun c => ?_) (fun c => ?_)
  · have h := (if_pos c).symm.trans h
    exact J_sub (ls' := [(3, .inl s.1)]) [3] rfl (hX _ (Option.some.inj h).symm)
  · have h := (if_neg c).symm.trans h
    refine J_seg ok_X0_countMutual 8 3 (pc' := 18) (ls' := [(0, .inr (.inr (.inl k0))), (1, .inl k1), (2, .inl k2), (3, .inl s.1), (4, .inl s.2)]) (st' := [.inl k1, .inl s.2, .inr (.inr (.inl k0))]) rfl ?_
    by_cases c5 : qO ah k0 0 = true
    case neg => exact absurd ((if_neg c5).symm.trans h) (by simp)
    have h := (if_pos c5).symm.trans h
    obtain ⟨q3, h4, h⟩ := Option.bind_eq_some_iff.mp h
    refine J_callV (md' := md_X0_victimIn) (As := [.inl s.2, .inl k1]) (st := []) (cs' := (0, 0)) (st' := [.inl q3.1]) (jat ok_X0_countMutual 11 (pc := 18) (i := .invokevirtual 56) (n := 3) rfl rfl) ml_RX0_56 yv_X0_victimIn c5 (c_X0_victimIn l g (d + 0) h4) (jRo_of (by decide)) (Nat.le_of_ble_eq_true rfl) ⟨Nat.le_of_ble_eq_true rfl, Nat.le_of_ble_eq_true rfl⟩ rfl rfl rfl ?_
    refine J_seg ok_X0_countMutual 12 1 (pc' := 22) (ls' := [(0, .inr (.inr (.inl k0))), (1, .inl k1), (2, .inl k2), (3, .inl s.1), (4, .inl s.2)]) (st' := [.inl k2, .inl q3.1]) rfl ?_
    refine J_ne (jat ok_X0_countMutual 13 (pc := 22) (i := .if_icmp .ne 17) (n := 3) rfl rfl) (tgt := 39) (by decide) (fun c => ?_) (fun c => ?_)
    · have h := (if_neg c).symm.trans h
      refine J_seg ok_X0_countMutual 21 2 (pc' := 5) (ls' := [(4, .inl (s.2 + 1)), (0, .inr (.inr (.inl k0))), (1, .inl k1), (2, .inl k2), (3, .inl s.1)]) (st' := []) rfl ?_
      exact J_sub (ls' := [(0, .inr (.inr (.inl k0))), (1, .inl k1), (2, .inl k2), (3, .inl s.1), (4, .inl (s.2 + 1))]) [1, 2, 3, 4, 0] rfl (hN _ (Option.some.inj h).symm)
    · have h := (if_pos c).symm.trans h
      refine J_seg ok_X0_countMutual 14 3 (pc' := 29) (ls' := [(0, .inr (.inr (.inl k0))), (1, .inl k1), (2, .inl k2), (3, .inl s.1), (4, .inl s.2)]) (st' := [.inl k2, .inl s.2, .inr (.inr (.inl k0))]) rfl ?_
      by_cases c8 : qO q3.2 k0 0 = true
      case neg => exact absurd ((if_neg c8).symm.trans h) (by simp)
      have h := (if_pos c8).symm.trans h
      obtain ⟨q6, h7, h⟩ := Option.bind_eq_some_iff.mp h
      refine J_callV (md' := md_X0_victimIn) (As := [.inl s.2, .inl k2]) (st := []) (cs' := (0, 0)) (st' := [.inl q6.1]) (jat ok_X0_countMutual 17 (pc := 29) (i := .invokevirtual 56) (n := 3) rfl rfl) ml_RX0_56 yv_X0_victimIn c8 (c_X0_victimIn l g (d + 0) h7) (jRo_of (by decide)) (Nat.le_of_ble_eq_true rfl) ⟨Nat.le_of_ble_eq_true rfl, Nat.le_of_ble_eq_true rfl⟩ rfl rfl rfl ?_
      refine J_seg ok_X0_countMutual 18 1 (pc' := 33) (ls' := [(0, .inr (.inr (.inl k0))), (1, .inl k1), (2, .inl k2), (3, .inl s.1), (4, .inl s.2)]) (st' := [.inl k1, .inl q6.1]) rfl ?_
      refine J_ne (jat ok_X0_countMutual 19 (pc := 33) (i := .if_icmp .ne 6) (n := 3) rfl rfl) (tgt := 39) (by decide) (fun c => ?_) (fun c => ?_)
      · have h := (if_neg c).symm.trans h
        refine J_seg ok_X0_countMutual 21 2 (pc' := 5) (ls' := [(4, .inl (s.2 + 1)), (0, .inr (.inr (.inl k0))), (1, .inl k1), (2, .inl k2), (3, .inl s.1)]) (st' := []) rfl ?_
        exact J_sub (ls' := [(0, .inr (.inr (.inl k0))), (1, .inl k1), (2, .inl k2), (3, .inl s.1), (4, .inl (s.2 + 1))]) [1, 2, 3, 4, 0] rfl (hN _ (Option.some.inj h).symm)
      · have h := (if_pos c).symm.trans h
        refine J_seg ok_X0_countMutual 20 3 (pc' := 5) (ls' := [(4, .inl (s.2 + 1)), (3, .inl (s.1 + 1)), (0, .inr (.inr (.inl k0))), (1, .inl k1), (2, .inl k2)]) (st' := []) rfl ?_
        exact J_sub (ls' := [(0, .inr (.inr (.inl k0))), (1, .inl k1), (2, .inl k2), (3, .inl (s.1 + 1)), (4, .inl (s.2 + 1))]) [2, 3, 4, 1, 0] rfl (hN _ (Option.some.inj h).symm)
def f_X0_countMutual (x0 : Option Nat) (x1 : Int32) (x2 : Int32) (ah : AH) : Option (Int32 × AH) :=
  (jloop (f_X0_countMutual_b5 x0 x1 x2) jfuel (0, 0) ah).bind fun q9 => match q9 with | .inl r => none | .inr x => some (x.1, x.2)
set_option maxRecDepth 100000 in
set_option maxHeartbeats 4000000 in
theorem k_X0_countMutual {l : Launch} {g : GX} (d : Nat) {Q : jQ} {x0 : Option Nat} {x1 : Int32} {x2 : Int32} (ah : AH) (out : Int32 × AH) (h : f_X0_countMutual x0 x1 x2 ah = some out) (hR : jRetI l g md_X0_countMutual (jRm (d + 1) md_X0_countMutual) Q (0, 0) out.1 out.2) : J l g md_X0_countMutual (jRm (d + 1) md_X0_countMutual) Q 0 [(0, .inr (.inr (.inl x0))), (1, .inl x1), (2, .inl x2)] [] ah (0, 0) := by
  unfold f_X0_countMutual at h
  refine J_seg ok_X0_countMutual 0 4 (pc' := 5) (ls' := [(4, .inl 0), (3, .inl 0), (0, .inr (.inr (.inl x0))), (1, .inl x1), (2, .inl x2)]) (st' := []) rfl ?_
  obtain ⟨q9, h10, h⟩ := Option.bind_eq_some_iff.mp h
  refine J_sub (ls' := [(0, .inr (.inr (.inl x0))), (1, .inl x1), (2, .inl x2), (3, .inl 0), (4, .inl 0)]) [2, 3, 4, 1, 0] rfl ?_
  refine J_loop (pE := 45) (lh := fun s => [(0, .inr (.inr (.inl x0))), (1, .inl x1), (2, .inl x2), (3, .inl s.1), (4, .inl s.2)]) (lx := fun x => [(3, .inl x)]) (P := jRetN) (fun s ah out hb hR hX hN => k_X0_countMutual_b5 d s ah out hb hR hX hN) jfuel (0, 0) _ _ h10 (fun r e => ?_) (fun x e => ?_)
  · subst e
    dsimp only at h
    cases h
  · subst e
    dsimp only at h
    refine J_seg ok_X0_countMutual 23 1 (pc' := 46) (ls' := [(3, .inl x.1)]) (st' := [.inl x.1]) rfl ?_
    have h := Option.some.inj h
    subst h
    exact hR _ _ (jat ok_X0_countMutual 24 (pc := 46) (i := .ireturn) (n := 1) rfl rfl)
theorem c_X0_countMutual (l : Launch) (g : GX) (d : Nat) {x0 : Option Nat} {x1 : Int32} {x2 : Int32} {ah : AH} {q : Int32 × AH} (h : f_X0_countMutual x0 x1 x2 ah = some q) : jM l g (d + 1) md_X0_countMutual [.inr (.inr (.inl x0)), .inl x1, .inl x2] ah (some (.inl q.1)) q.2 :=
  jM_of (by decide) (Nat.le_of_ble_eq_true rfl) (k_X0_countMutual d ah q h (fun pc ls hd => J_reti hd rfl (jPV_int _) rfl (Nat.le_refl _) rfl rfl))
def f_J7_fill_53178_b5 (k0 : Option Nat) (k1 : Int32) (k3 : Int32) (s : Int32) (ah : AH) : Option ((Unit × AH) ⊕ (((Unit) × AH) ⊕ ((Int32) × AH))) :=
  if k3 ≤ s then (some (.inr (.inl ((), ah)))) else ((sA ah k0 s k1).bind fun a3 => some (.inr (.inr (s + 1, a3))))
set_option maxRecDepth 100000 in
set_option maxHeartbeats 4000000 in
theorem k_J7_fill_53178_b5 {l : Launch} {g : GX} (d : Nat) {Q : jQ} {k0 : Option Nat} {k1 : Int32} {k3 : Int32} (s : Int32) (ah : AH) (out : (Unit × AH) ⊕ (((Unit) × AH) ⊕ ((Int32) × AH))) (h : f_J7_fill_53178_b5 k0 k1 k3 s ah = some out) (hR : ∀ q, out = .inl q → jRetN q.1 q.2) (hX : ∀ q, out = .inr (.inl q) → J l g md_J7_fill_53178 (jRm (d + 0) md_J7_fill_53178) Q 20 [] [] q.2 (0, 0)) (hN : ∀ q, out = .inr (.inr q) → J l g md_J7_fill_53178 (jRm (d + 0) md_J7_fill_53178) Q 5 [(0, .inr (.inr (.inl k0))), (1, .inl k1), (2, .inl q.1), (3, .inl k3)] [] q.2 (0, 0)) : J l g md_J7_fill_53178 (jRm (d + 0) md_J7_fill_53178) Q 5 [(0, .inr (.inr (.inl k0))), (1, .inl k1), (2, .inl s), (3, .inl k3)] [] ah (0, 0) := by
  unfold f_J7_fill_53178_b5 at h
  refine J_seg ok_J7_fill_53178 5 2 (pc' := 7) (ls' := [(0, .inr (.inr (.inl k0))), (1, .inl k1), (2, .inl s), (3, .inl k3)]) (st' := [.inl k3, .inl s]) rfl ?_
  refine J_ge (jat ok_J7_fill_53178 7 (pc := 7) (i := .if_icmp .ge 13) (n := 3) rfl rfl) (tgt := 20) (by decide) (fun c => ?_) (fun c => ?_)
  · have h := (if_pos c).symm.trans h
    exact J_sub (ls' := []) [] rfl (hX _ (Option.some.inj h).symm)
  · have h := (if_neg c).symm.trans h
    refine J_seg ok_J7_fill_53178 8 3 (pc' := 13) (ls' := [(0, .inr (.inr (.inl k0))), (1, .inl k1), (2, .inl s), (3, .inl k3)]) (st' := [.inl k1, .inl s, .inr (.inr (.inl k0))]) rfl ?_
    obtain ⟨a3, h4, h⟩ := Option.bind_eq_some_iff.mp h
    refine J_iast (jat ok_J7_fill_53178 11 (pc := 13) (i := .iastore) (n := 1) rfl rfl) h4 ?_
    refine J_seg ok_J7_fill_53178 12 2 (pc' := 5) (ls' := [(2, .inl (s + 1)), (0, .inr (.inr (.inl k0))), (1, .inl k1), (3, .inl k3)]) (st' := []) rfl ?_
    exact J_sub (ls' := [(0, .inr (.inr (.inl k0))), (1, .inl k1), (2, .inl (s + 1)), (3, .inl k3)]) [1, 2, 0, 3] rfl (hN _ (Option.some.inj h).symm)
def f_J7_fill_53178 (x0 : Option Nat) (x1 : Int32) (ah : AH) : Option (Unit × AH) :=
  (lA ah x0).bind fun v1 => (jloop (f_J7_fill_53178_b5 x0 x1 v1) jfuel 0 ah).bind fun q5 => match q5 with | .inl r => none | .inr x => some ((), x.2)
set_option maxRecDepth 100000 in
set_option maxHeartbeats 4000000 in
theorem k_J7_fill_53178 {l : Launch} {g : GX} (d : Nat) {Q : jQ} {x0 : Option Nat} {x1 : Int32} (ah : AH) (out : Unit × AH) (h : f_J7_fill_53178 x0 x1 ah = some out) (hR : jRetV l g md_J7_fill_53178 (jRm (d + 0) md_J7_fill_53178) Q (0, 0) out.1 out.2) : J l g md_J7_fill_53178 (jRm (d + 0) md_J7_fill_53178) Q 0 [(0, .inr (.inr (.inl x0))), (1, .inl x1)] [] ah (0, 0) := by
  unfold f_J7_fill_53178 at h
  refine J_seg ok_J7_fill_53178 0 3 (pc' := 3) (ls' := [(2, .inl 0), (0, .inr (.inr (.inl x0))), (1, .inl x1)]) (st' := [.inr (.inr (.inl x0))]) rfl ?_
  obtain ⟨v1, h2, h⟩ := Option.bind_eq_some_iff.mp h
  refine J_alen (jat ok_J7_fill_53178 3 (pc := 3) (i := .arraylength) (n := 1) rfl rfl) h2 ?_
  refine J_seg ok_J7_fill_53178 4 1 (pc' := 5) (ls' := [(3, .inl v1), (2, .inl 0), (0, .inr (.inr (.inl x0))), (1, .inl x1)]) (st' := []) rfl ?_
  obtain ⟨q5, h6, h⟩ := Option.bind_eq_some_iff.mp h
  refine J_sub (ls' := [(0, .inr (.inr (.inl x0))), (1, .inl x1), (2, .inl 0), (3, .inl v1)]) [2, 3, 1, 0] rfl ?_
  refine J_loop (pE := 20) (lh := fun s => [(0, .inr (.inr (.inl x0))), (1, .inl x1), (2, .inl s), (3, .inl v1)]) (lx := fun x => []) (P := jRetN) (fun s ah out hb hR hX hN => k_J7_fill_53178_b5 d s ah out hb hR hX hN) jfuel 0 _ _ h6 (fun r e => ?_) (fun x e => ?_)
  · subst e
    dsimp only at h
    cases h
  · subst e
    dsimp only at h
    have h := Option.some.inj h
    subst h
    exact hR _ _ (jat ok_J7_fill_53178 14 (pc := 20) (i := .return_) (n := 1) rfl rfl)
theorem c_J7_fill_53178 (l : Launch) (g : GX) (d : Nat) {x0 : Option Nat} {x1 : Int32} {ah : AH} {q : Unit × AH} (h : f_J7_fill_53178 x0 x1 ah = some q) : jM l g (d + 0) md_J7_fill_53178 [.inr (.inr (.inl x0)), .inl x1] ah none q.2 :=
  jM_of (by decide) (Nat.le_of_ble_eq_true rfl) (k_J7_fill_53178 d ah q h (fun pc ls hd => J_retv hd rfl rfl (Nat.le_refl _) rfl rfl))
def f_X0_mostAlike_b12 (k0 : Option Nat) (k1 : Int32) (s : Int32 × Int32) (ah : AH) : Option ((Unit × AH) ⊕ (((Int32) × AH) ⊕ ((Int32 × Int32) × AH))) :=
  (gI ah k0 0 3).bind fun v5 => if v5 ≤ s.2 then (some (.inr (.inl (s.1, ah)))) else (if 320 ≤ s.2 then (some (.inr (.inl (s.1, ah)))) else ((gR ah k0 0 0).bind fun v7 => (gA ah v7 s.2).bind fun v9 => if qO ah k0 0 = true then ((f_X0_victimsOf k0 v9 k1 ah).bind fun q11 => if q11.1 < 0 then (some (.inr (.inr ((s.1, s.2 + 1), q11.2)))) else (if 64 ≤ q11.1 then (some (.inr (.inr ((s.1, s.2 + 1), q11.2)))) else ((gR q11.2 k0 0 2).bind fun v14 => (gA q11.2 v14 q11.1).bind fun v16 => (sA q11.2 v14 q11.1 (v16 + 1)).bind fun a18 => (gR a18 k0 0 2).bind fun v20 => (gA a18 v20 q11.1).bind fun v22 => some (.inr (.inr (((if s.1 < v22 then v22 else s.1), s.2 + 1), a18)))))) else none))
set_option maxRecDepth 100000 in
set_option maxHeartbeats 4000000 in
theorem k_X0_mostAlike_b12 {l : Launch} {g : GX} (d : Nat) {Q : jQ} {k0 : Option Nat} {k1 : Int32} (s : Int32 × Int32) (ah : AH) (out : (Unit × AH) ⊕ (((Int32) × AH) ⊕ ((Int32 × Int32) × AH))) (h : f_X0_mostAlike_b12 k0 k1 s ah = some out) (hR : ∀ q, out = .inl q → jRetN q.1 q.2) (hX : ∀ q, out = .inr (.inl q) → J l g md_X0_mostAlike (jRm (d + 1) md_X0_mostAlike) Q 81 [(2, .inl q.1)] [] q.2 (0, 0)) (hN : ∀ q, out = .inr (.inr q) → J l g md_X0_mostAlike (jRm (d + 1) md_X0_mostAlike) Q 12 [(0, .inr (.inr (.inl k0))), (1, .inl k1), (2, .inl q.1.1), (3, .inl q.1.2)] [] q.2 (0, 0)) : J l g md_X0_mostAlike (jRm (d + 1) md_X0_mostAlike) Q 12 [(0, .inr (.inr (.inl k0))), (1, .inl k1), (2, .inl s.1), (3, .inl s.2)] [] ah (0, 0) := by
  unfold f_X0_mostAlike_b12 at h
  refine J_seg ok_X0_mostAlike 8 2 (pc' := 14) (ls' := [(0, .inr (.inr (.inl k0))), (1, .inl k1), (2, .inl s.1), (3, .inl s.2)]) (st' := [.inr (.inr (.inl k0)), .inl s.2]) rfl ?_
  obtain ⟨v5, h6, h⟩ := Option.bind_eq_some_iff.mp h
  refine J_getI (jat ok_X0_mostAlike 10 (pc := 14) (i := .getfield 21) (n := 3) rfl rfl) fl_RX0_21 h6 ?_
  refine J_ge (jat ok_X0_mostAlike 11 (pc := 17) (i := .if_icmp .ge 64) (n := 3) rfl rfl) (tgt := 81) (by decide) (fun c => ?_) (fun c => ?_)
  · have h := (if_pos c).symm.trans h
    exact J_sub (ls' := [(2, .inl s.1)]) [2] rfl (hX _ (Option.some.inj h).symm)
  · have h := (if_neg c).symm.trans h
    refine J_seg ok_X0_mostAlike 12 2 (pc' := 24) (ls' := [(0, .inr (.inr (.inl k0))), (1, .inl k1), (2, .inl s.1), (3, .inl s.2)]) (st' := [.inl 320, .inl s.2]) rfl ?_
    refine J_ge (jat ok_X0_mostAlike 14 (pc := 24) (i := .if_icmp .ge 57) (n := 3) rfl rfl) (tgt := 81) (by decide) (fun c => ?_) (fun c => ?_)
    · have h := (if_pos c).symm.trans h
      exact J_sub (ls' := [(2, .inl s.1)]) [2] rfl (hX _ (Option.some.inj h).symm)
    · have h := (if_neg c).symm.trans h
      refine J_seg ok_X0_mostAlike 15 2 (pc' := 29) (ls' := [(0, .inr (.inr (.inl k0))), (1, .inl k1), (2, .inl s.1), (3, .inl s.2)]) (st' := [.inr (.inr (.inl k0)), .inr (.inr (.inl k0))]) rfl ?_
      obtain ⟨v7, h8, h⟩ := Option.bind_eq_some_iff.mp h
      refine J_getR (jat ok_X0_mostAlike 17 (pc := 29) (i := .getfield 9) (n := 3) rfl rfl) fl_RX0_9 h8 ?_
      refine J_seg ok_X0_mostAlike 18 1 (pc' := 33) (ls' := [(0, .inr (.inr (.inl k0))), (1, .inl k1), (2, .inl s.1), (3, .inl s.2)]) (st' := [.inl s.2, .inr (.inr (.inl v7)), .inr (.inr (.inl k0))]) rfl ?_
      obtain ⟨v9, h10, h⟩ := Option.bind_eq_some_iff.mp h
      refine J_iald (jat ok_X0_mostAlike 19 (pc := 33) (i := .iaload) (n := 1) rfl rfl) h10 ?_
      refine J_seg ok_X0_mostAlike 20 1 (pc' := 35) (ls' := [(0, .inr (.inr (.inl k0))), (1, .inl k1), (2, .inl s.1), (3, .inl s.2)]) (st' := [.inl k1, .inl v9, .inr (.inr (.inl k0))]) rfl ?_
      by_cases c13 : qO ah k0 0 = true
      case neg => exact absurd ((if_neg c13).symm.trans h) (by simp)
      have h := (if_pos c13).symm.trans h
      obtain ⟨q11, h12, h⟩ := Option.bind_eq_some_iff.mp h
      refine J_callV (md' := md_X0_victimsOf) (As := [.inl v9, .inl k1]) (st := []) (cs' := (0, 0)) (st' := [.inl q11.1]) (jat ok_X0_mostAlike 21 (pc := 35) (i := .invokevirtual 52) (n := 3) rfl rfl) ml_RX0_52 yv_X0_victimsOf c13 (c_X0_victimsOf l g (d + 0) h12) (jRo_of (by decide)) (Nat.le_of_ble_eq_true rfl) ⟨Nat.le_of_ble_eq_true rfl, Nat.le_of_ble_eq_true rfl⟩ rfl rfl rfl ?_
      refine J_seg ok_X0_mostAlike 22 2 (pc' := 42) (ls' := [(4, .inl q11.1), (0, .inr (.inr (.inl k0))), (1, .inl k1), (2, .inl s.1), (3, .inl s.2)]) (st' := [.inl q11.1]) rfl ?_
      refine J_lt0 (jat ok_X0_mostAlike 24 (pc := 42) (i := .ifCond .lt 33) (n := 3) rfl rfl) (tgt := 75) (by decide) (fun c => ?_) (fun c => ?_)
      · have h := (if_pos c).symm.trans h
        refine J_seg ok_X0_mostAlike 43 2 (pc' := 12) (ls' := [(3, .inl (s.2 + 1)), (4, .inl q11.1), (0, .inr (.inr (.inl k0))), (1, .inl k1), (2, .inl s.1)]) (st' := []) rfl ?_
        exact J_sub (ls' := [(0, .inr (.inr (.inl k0))), (1, .inl k1), (2, .inl s.1), (3, .inl (s.2 + 1))]) [2, 3, 4, 0] rfl (hN _ (Option.some.inj h).symm)
      · have h := (if_neg c).symm.trans h
        refine J_seg ok_X0_mostAlike 25 2 (pc' := 49) (ls' := [(4, .inl q11.1), (0, .inr (.inr (.inl k0))), (1, .inl k1), (2, .inl s.1), (3, .inl s.2)]) (st' := [.inl 64, .inl q11.1]) rfl ?_
        refine J_ge (jat ok_X0_mostAlike 27 (pc := 49) (i := .if_icmp .ge 26) (n := 3) rfl rfl) (tgt := 75) (by decide) (fun c => ?_) (fun c => ?_)
        · have h := (if_pos c).symm.trans h
          refine J_seg ok_X0_mostAlike 43 2 (pc' := 12) (ls' := [(3, .inl (s.2 + 1)), (4, .inl q11.1), (0, .inr (.inr (.inl k0))), (1, .inl k1), (2, .inl s.1)]) (st' := []) rfl ?_
          exact J_sub (ls' := [(0, .inr (.inr (.inl k0))), (1, .inl k1), (2, .inl s.1), (3, .inl (s.2 + 1))]) [2, 3, 4, 0] rfl (hN _ (Option.some.inj h).symm)
        · have h := (if_neg c).symm.trans h
          refine J_seg ok_X0_mostAlike 28 1 (pc' := 53) (ls' := [(4, .inl q11.1), (0, .inr (.inr (.inl k0))), (1, .inl k1), (2, .inl s.1), (3, .inl s.2)]) (st' := [.inr (.inr (.inl k0))]) rfl ?_
          obtain ⟨v14, h15, h⟩ := Option.bind_eq_some_iff.mp h
          refine J_getR (jat ok_X0_mostAlike 29 (pc := 53) (i := .getfield 18) (n := 3) rfl rfl) fl_RX0_18 h15 ?_
          refine J_seg ok_X0_mostAlike 30 2 (pc' := 59) (ls' := [(4, .inl q11.1), (0, .inr (.inr (.inl k0))), (1, .inl k1), (2, .inl s.1), (3, .inl s.2)]) (st' := [.inl q11.1, .inr (.inr (.inl v14)), .inl q11.1, .inr (.inr (.inl v14))]) rfl ?_
          obtain ⟨v16, h17, h⟩ := Option.bind_eq_some_iff.mp h
          refine J_iald (jat ok_X0_mostAlike 32 (pc := 59) (i := .iaload) (n := 1) rfl rfl) h17 ?_
          refine J_seg ok_X0_mostAlike 33 2 (pc' := 62) (ls' := [(4, .inl q11.1), (0, .inr (.inr (.inl k0))), (1, .inl k1), (2, .inl s.1), (3, .inl s.2)]) (st' := [.inl (v16 + 1), .inl q11.1, .inr (.inr (.inl v14))]) rfl ?_
          obtain ⟨a18, h19, h⟩ := Option.bind_eq_some_iff.mp h
          refine J_iast (jat ok_X0_mostAlike 35 (pc := 62) (i := .iastore) (n := 1) rfl rfl) h19 ?_
          refine J_seg ok_X0_mostAlike 36 2 (pc' := 65) (ls' := [(4, .inl q11.1), (0, .inr (.inr (.inl k0))), (1, .inl k1), (2, .inl s.1), (3, .inl s.2)]) (st' := [.inr (.inr (.inl k0)), .inl s.1]) rfl ?_
          obtain ⟨v20, h21, h⟩ := Option.bind_eq_some_iff.mp h
          refine J_getR (jat ok_X0_mostAlike 38 (pc := 65) (i := .getfield 18) (n := 3) rfl rfl) fl_RX0_18 h21 ?_
          refine J_seg ok_X0_mostAlike 39 1 (pc' := 70) (ls' := [(4, .inl q11.1), (0, .inr (.inr (.inl k0))), (1, .inl k1), (2, .inl s.1), (3, .inl s.2)]) (st' := [.inl q11.1, .inr (.inr (.inl v20)), .inl s.1]) rfl ?_
          obtain ⟨v22, h23, h⟩ := Option.bind_eq_some_iff.mp h
          refine J_iald (jat ok_X0_mostAlike 40 (pc := 70) (i := .iaload) (n := 1) rfl rfl) h23 ?_
          refine J_max (jat ok_X0_mostAlike 41 (pc := 71) (i := .invokestatic 65) (n := 3) rfl rfl) mm_RX0_65 mw_max ⟨by show 1 ≤ d + 1; omega, by show 21 ≤ 64 * (d + 1); omega⟩ (Nat.le_of_ble_eq_true rfl) ⟨Nat.le_of_ble_eq_true rfl, Nat.le_of_ble_eq_true rfl⟩ ?_
          refine J_seg ok_X0_mostAlike 42 3 (pc' := 12) (ls' := [(3, .inl (s.2 + 1)), (2, .inl (if s.1 < v22 then v22 else s.1)), (4, .inl q11.1), (0, .inr (.inr (.inl k0))), (1, .inl k1)]) (st' := []) rfl ?_
          exact J_sub (ls' := [(0, .inr (.inr (.inl k0))), (1, .inl k1), (2, .inl (if s.1 < v22 then v22 else s.1)), (3, .inl (s.2 + 1))]) [3, 4, 1, 0] rfl (hN _ (Option.some.inj h).symm)
def f_X0_mostAlike (x0 : Option Nat) (x1 : Int32) (ah : AH) : Option (Int32 × AH) :=
  (gR ah x0 0 2).bind fun v1 => (f_J7_fill_53178 v1 0 ah).bind fun q3 => (jloop (f_X0_mostAlike_b12 x0 x1) jfuel (0, 0) q3.2).bind fun q24 => match q24 with | .inl r => none | .inr x => some (x.1, x.2)
set_option maxRecDepth 100000 in
set_option maxHeartbeats 4000000 in
theorem k_X0_mostAlike {l : Launch} {g : GX} (d : Nat) {Q : jQ} {x0 : Option Nat} {x1 : Int32} (ah : AH) (out : Int32 × AH) (h : f_X0_mostAlike x0 x1 ah = some out) (hR : jRetI l g md_X0_mostAlike (jRm (d + 1) md_X0_mostAlike) Q (0, 0) out.1 out.2) : J l g md_X0_mostAlike (jRm (d + 1) md_X0_mostAlike) Q 0 [(0, .inr (.inr (.inl x0))), (1, .inl x1)] [] ah (0, 0) := by
  unfold f_X0_mostAlike at h
  refine J_seg ok_X0_mostAlike 0 1 (pc' := 1) (ls' := [(0, .inr (.inr (.inl x0))), (1, .inl x1)]) (st' := [.inr (.inr (.inl x0))]) rfl ?_
  obtain ⟨v1, h2, h⟩ := Option.bind_eq_some_iff.mp h
  refine J_getR (jat ok_X0_mostAlike 1 (pc := 1) (i := .getfield 18) (n := 3) rfl rfl) fl_RX0_18 h2 ?_
  refine J_seg ok_X0_mostAlike 2 1 (pc' := 5) (ls' := [(0, .inr (.inr (.inl x0))), (1, .inl x1)]) (st' := [.inl 0, .inr (.inr (.inl v1))]) rfl ?_
  obtain ⟨q3, h4, h⟩ := Option.bind_eq_some_iff.mp h
  refine J_callS (md' := md_J7_fill_53178) (As := [.inr (.inr (.inl v1)), .inl 0]) (st := []) (cs' := (0, 0)) (st' := []) (jat ok_X0_mostAlike 3 (pc := 5) (i := .invokestatic 59) (n := 3) rfl rfl) (Or.inl ml_RX0_59) ys_J7_fill_53178 (c_J7_fill_53178 l g (d + 0) h4) (jRo_of (by decide)) (Nat.le_of_ble_eq_true rfl) ⟨Nat.le_of_ble_eq_true rfl, Nat.le_of_ble_eq_true rfl⟩ rfl rfl rfl ?_
  refine J_seg ok_X0_mostAlike 4 4 (pc' := 12) (ls' := [(3, .inl 0), (2, .inl 0), (0, .inr (.inr (.inl x0))), (1, .inl x1)]) (st' := []) rfl ?_
  obtain ⟨q24, h25, h⟩ := Option.bind_eq_some_iff.mp h
  refine J_sub (ls' := [(0, .inr (.inr (.inl x0))), (1, .inl x1), (2, .inl 0), (3, .inl 0)]) [2, 3, 1, 0] rfl ?_
  refine J_loop (pE := 81) (lh := fun s => [(0, .inr (.inr (.inl x0))), (1, .inl x1), (2, .inl s.1), (3, .inl s.2)]) (lx := fun x => [(2, .inl x)]) (P := jRetN) (fun s ah out hb hR hX hN => k_X0_mostAlike_b12 d s ah out hb hR hX hN) jfuel (0, 0) _ _ h25 (fun r e => ?_) (fun x e => ?_)
  · subst e
    dsimp only at h
    cases h
  · subst e
    dsimp only at h
    refine J_seg ok_X0_mostAlike 45 1 (pc' := 82) (ls' := [(2, .inl x.1)]) (st' := [.inl x.1]) rfl ?_
    have h := Option.some.inj h
    subst h
    exact hR _ _ (jat ok_X0_mostAlike 46 (pc := 82) (i := .ireturn) (n := 1) rfl rfl)
theorem c_X0_mostAlike (l : Launch) (g : GX) (d : Nat) {x0 : Option Nat} {x1 : Int32} {ah : AH} {q : Int32 × AH} (h : f_X0_mostAlike x0 x1 ah = some q) : jM l g (d + 1) md_X0_mostAlike [.inr (.inr (.inl x0)), .inl x1] ah (some (.inl q.1)) q.2 :=
  jM_of (by decide) (Nat.le_of_ble_eq_true rfl) (k_X0_mostAlike d ah q h (fun pc ls hd => J_reti hd rfl (jPV_int _) rfl (Nat.le_refl _) rfl rfl))
end

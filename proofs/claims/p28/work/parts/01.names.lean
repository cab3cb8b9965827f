-- ===== PART A: goes FIRST, ahead of the names: the tables' words, and 'selects' of the private methods out of them =====
/-- a private method of a class that the tables say can be made, by its rows of tables_1 -/
def lw_okq (q : MethodName × Nat) : Prop := (q.1.cls ≠ "java/lang/invoke/MethodHandle" ∧ q.1.cls ≠ "java/lang/invoke/VarHandle") ∧ Cond.instantiable q.1.cls q.2 ∈ tables_1 ∧ Cond.privateMethod q.1 ∈ tables_1 ∧ Cond.instanceMethod q.1 ∈ tables_1
theorem lw_p0 : lw_okq (⟨"DitchOpen$Tape", "append", "(I)V"⟩, 3) := ⟨⟨by decide +kernel, by decide +kernel⟩, List.mem_of_getElem? (i := 33) (by decide +kernel), List.mem_of_getElem? (i := 370) (by decide +kernel), List.mem_of_getElem? (i := 371) (by decide +kernel)⟩
theorem lw_p1 : lw_okq (⟨"DitchOpen", "isSort", "(I)Z"⟩, 12) := ⟨⟨by decide +kernel, by decide +kernel⟩, List.mem_of_getElem? (i := 25) (by decide +kernel), List.mem_of_getElem? (i := 386) (by decide +kernel), List.mem_of_getElem? (i := 387) (by decide +kernel)⟩
theorem lw_p2 : lw_okq (⟨"DitchOpen", "isRead", "(I)Z"⟩, 12) := ⟨⟨by decide +kernel, by decide +kernel⟩, List.mem_of_getElem? (i := 25) (by decide +kernel), List.mem_of_getElem? (i := 392) (by decide +kernel), List.mem_of_getElem? (i := 393) (by decide +kernel)⟩
theorem lw_p3 : lw_okq (⟨"DitchOpen", "keptOf", "(I)I"⟩, 12) := ⟨⟨by decide +kernel, by decide +kernel⟩, List.mem_of_getElem? (i := 25) (by decide +kernel), List.mem_of_getElem? (i := 400) (by decide +kernel), List.mem_of_getElem? (i := 401) (by decide +kernel)⟩
theorem lw_p4 : lw_okq (⟨"DitchOpen", "ditchSlot", "(I)LDitchOpen$Ditch;"⟩, 12) := ⟨⟨by decide +kernel, by decide +kernel⟩, List.mem_of_getElem? (i := 25) (by decide +kernel), List.mem_of_getElem? (i := 404) (by decide +kernel), List.mem_of_getElem? (i := 405) (by decide +kernel)⟩
theorem lw_p5 : lw_okq (⟨"DitchOpen", "lawSlot", "(I)LDitchOpen$Law;"⟩, 12) := ⟨⟨by decide +kernel, by decide +kernel⟩, List.mem_of_getElem? (i := 25) (by decide +kernel), List.mem_of_getElem? (i := 544) (by decide +kernel), List.mem_of_getElem? (i := 545) (by decide +kernel)⟩
theorem lw_p6 : lw_okq (⟨"DitchOpen$Law", "readClause", "(LDitchOpen$Tape;)Z"⟩, 4) := ⟨⟨by decide +kernel, by decide +kernel⟩, List.mem_of_getElem? (i := 86) (by decide +kernel), List.mem_of_getElem? (i := 552) (by decide +kernel), List.mem_of_getElem? (i := 553) (by decide +kernel)⟩
theorem lw_p7 : lw_okq (⟨"DitchOpen$Law", "readSum", "(LDitchOpen$Tape;I)Z"⟩, 4) := ⟨⟨by decide +kernel, by decide +kernel⟩, List.mem_of_getElem? (i := 86) (by decide +kernel), List.mem_of_getElem? (i := 558) (by decide +kernel), List.mem_of_getElem? (i := 559) (by decide +kernel)⟩
theorem lw_p8 : lw_okq (⟨"DitchOpen$Law", "readTerm", "(LDitchOpen$Tape;I)Z"⟩, 4) := ⟨⟨by decide +kernel, by decide +kernel⟩, List.mem_of_getElem? (i := 86) (by decide +kernel), List.mem_of_getElem? (i := 562) (by decide +kernel), List.mem_of_getElem? (i := 563) (by decide +kernel)⟩
theorem lw_p9 : lw_okq (⟨"DitchOpen$Law", "readAtom", "(LDitchOpen$Tape;I)Z"⟩, 4) := ⟨⟨by decide +kernel, by decide +kernel⟩, List.mem_of_getElem? (i := 86) (by decide +kernel), List.mem_of_getElem? (i := 566) (by decide +kernel), List.mem_of_getElem? (i := 567) (by decide +kernel)⟩
theorem lw_p10 : lw_okq (⟨"DitchOpen$Law", "add", "(II)V"⟩, 4) := ⟨⟨by decide +kernel, by decide +kernel⟩, List.mem_of_getElem? (i := 86) (by decide +kernel), List.mem_of_getElem? (i := 573) (by decide +kernel), List.mem_of_getElem? (i := 574) (by decide +kernel)⟩
theorem lw_p11 : lw_okq (⟨"DitchOpen$Law", "readCondition", "(LDitchOpen$Tape;IZ)Z"⟩, 4) := ⟨⟨by decide +kernel, by decide +kernel⟩, List.mem_of_getElem? (i := 86) (by decide +kernel), List.mem_of_getElem? (i := 581) (by decide +kernel), List.mem_of_getElem? (i := 582) (by decide +kernel)⟩
theorem lw_p12 : lw_okq (⟨"DitchOpen$Law", "readTruth", "(LDitchOpen$Tape;IZ)Z"⟩, 4) := ⟨⟨by decide +kernel, by decide +kernel⟩, List.mem_of_getElem? (i := 86) (by decide +kernel), List.mem_of_getElem? (i := 585) (by decide +kernel), List.mem_of_getElem? (i := 586) (by decide +kernel)⟩
theorem lw_p13 : lw_okq (⟨"DitchOpen$Law", "readUnit", "(LDitchOpen$Tape;IZ)Z"⟩, 4) := ⟨⟨by decide +kernel, by decide +kernel⟩, List.mem_of_getElem? (i := 86) (by decide +kernel), List.mem_of_getElem? (i := 589) (by decide +kernel), List.mem_of_getElem? (i := 590) (by decide +kernel)⟩
theorem lw_p14 : lw_okq (⟨"DitchOpen$Law", "readRound", "(LDitchOpen$Tape;I)Z"⟩, 4) := ⟨⟨by decide +kernel, by decide +kernel⟩, List.mem_of_getElem? (i := 86) (by decide +kernel), List.mem_of_getElem? (i := 593) (by decide +kernel), List.mem_of_getElem? (i := 594) (by decide +kernel)⟩
theorem lw_p15 : lw_okq (⟨"DitchOpen$Law", "endAt", "(I)V"⟩, 4) := ⟨⟨by decide +kernel, by decide +kernel⟩, List.mem_of_getElem? (i := 86) (by decide +kernel), List.mem_of_getElem? (i := 597) (by decide +kernel), List.mem_of_getElem? (i := 598) (by decide +kernel)⟩
def lw_privs_1 : List (MethodName × Nat) := [(⟨"DitchOpen$Tape", "append", "(I)V"⟩, 3), (⟨"DitchOpen", "isSort", "(I)Z"⟩, 12), (⟨"DitchOpen", "isRead", "(I)Z"⟩, 12), (⟨"DitchOpen", "keptOf", "(I)I"⟩, 12), (⟨"DitchOpen", "ditchSlot", "(I)LDitchOpen$Ditch;"⟩, 12), (⟨"DitchOpen", "lawSlot", "(I)LDitchOpen$Law;"⟩, 12), (⟨"DitchOpen$Law", "readClause", "(LDitchOpen$Tape;)Z"⟩, 4), (⟨"DitchOpen$Law", "readSum", "(LDitchOpen$Tape;I)Z"⟩, 4), (⟨"DitchOpen$Law", "readTerm", "(LDitchOpen$Tape;I)Z"⟩, 4), (⟨"DitchOpen$Law", "readAtom", "(LDitchOpen$Tape;I)Z"⟩, 4), (⟨"DitchOpen$Law", "add", "(II)V"⟩, 4), (⟨"DitchOpen$Law", "readCondition", "(LDitchOpen$Tape;IZ)Z"⟩, 4), (⟨"DitchOpen$Law", "readTruth", "(LDitchOpen$Tape;IZ)Z"⟩, 4), (⟨"DitchOpen$Law", "readUnit", "(LDitchOpen$Tape;IZ)Z"⟩, 4), (⟨"DitchOpen$Law", "readRound", "(LDitchOpen$Tape;I)Z"⟩, 4), (⟨"DitchOpen$Law", "endAt", "(I)V"⟩, 4)]
theorem lw_r1 : ∀ q ∈ lw_privs_1, lw_okq q := List.forall_mem_cons.mpr ⟨lw_p0, List.forall_mem_cons.mpr ⟨lw_p1, List.forall_mem_cons.mpr ⟨lw_p2, List.forall_mem_cons.mpr ⟨lw_p3, List.forall_mem_cons.mpr ⟨lw_p4, List.forall_mem_cons.mpr ⟨lw_p5, List.forall_mem_cons.mpr ⟨lw_p6, List.forall_mem_cons.mpr ⟨lw_p7, List.forall_mem_cons.mpr ⟨lw_p8, List.forall_mem_cons.mpr ⟨lw_p9, List.forall_mem_cons.mpr ⟨lw_p10, List.forall_mem_cons.mpr ⟨lw_p11, List.forall_mem_cons.mpr ⟨lw_p12, List.forall_mem_cons.mpr ⟨lw_p13, List.forall_mem_cons.mpr ⟨lw_p14, List.forall_mem_cons.mpr ⟨lw_p15, fun _ h => absurd h List.not_mem_nil⟩⟩⟩⟩⟩⟩⟩⟩⟩⟩⟩⟩⟩⟩⟩⟩
theorem lw_p16 : lw_okq (⟨"DitchOpen", "rainSlot", "(I)LDitchOpen$Rain;"⟩, 12) := ⟨⟨by decide +kernel, by decide +kernel⟩, List.mem_of_getElem? (i := 25) (by decide +kernel), List.mem_of_getElem? (i := 602) (by decide +kernel), List.mem_of_getElem? (i := 603) (by decide +kernel)⟩
theorem lw_p17 : lw_okq (⟨"DitchOpen", "findRain", "(I)LDitchOpen$Rain;"⟩, 12) := ⟨⟨by decide +kernel, by decide +kernel⟩, List.mem_of_getElem? (i := 25) (by decide +kernel), List.mem_of_getElem? (i := 626) (by decide +kernel), List.mem_of_getElem? (i := 627) (by decide +kernel)⟩
theorem lw_p18 : lw_okq (⟨"DitchOpen", "findDitch", "(I)LDitchOpen$Ditch;"⟩, 12) := ⟨⟨by decide +kernel, by decide +kernel⟩, List.mem_of_getElem? (i := 25) (by decide +kernel), List.mem_of_getElem? (i := 670) (by decide +kernel), List.mem_of_getElem? (i := 671) (by decide +kernel)⟩
theorem lw_p19 : lw_okq (⟨"DitchOpen", "findLaw", "(I)LDitchOpen$Law;"⟩, 12) := ⟨⟨by decide +kernel, by decide +kernel⟩, List.mem_of_getElem? (i := 25) (by decide +kernel), List.mem_of_getElem? (i := 674) (by decide +kernel), List.mem_of_getElem? (i := 675) (by decide +kernel)⟩
theorem lw_p20 : lw_okq (⟨"DitchOpen$Dug", "chain", "(I)V"⟩, 14) := ⟨⟨by decide +kernel, by decide +kernel⟩, List.mem_of_getElem? (i := 139) (by decide +kernel), List.mem_of_getElem? (i := 686) (by decide +kernel), List.mem_of_getElem? (i := 687) (by decide +kernel)⟩
theorem lw_p21 : lw_okq (⟨"DitchOpen$Dug", "begin", "(LDitchOpen$Law;LDitchOpen$Law;J)V"⟩, 14) := ⟨⟨by decide +kernel, by decide +kernel⟩, List.mem_of_getElem? (i := 139) (by decide +kernel), List.mem_of_getElem? (i := 699) (by decide +kernel), List.mem_of_getElem? (i := 700) (by decide +kernel)⟩
theorem lw_p22 : lw_okq (⟨"DitchOpen$Dug", "takeRain", "(I)V"⟩, 14) := ⟨⟨by decide +kernel, by decide +kernel⟩, List.mem_of_getElem? (i := 139) (by decide +kernel), List.mem_of_getElem? (i := 712) (by decide +kernel), List.mem_of_getElem? (i := 713) (by decide +kernel)⟩
theorem lw_p23 : lw_okq (⟨"DitchOpen$Dug", "setFlows", "(I)V"⟩, 14) := ⟨⟨by decide +kernel, by decide +kernel⟩, List.mem_of_getElem? (i := 139) (by decide +kernel), List.mem_of_getElem? (i := 716) (by decide +kernel), List.mem_of_getElem? (i := 717) (by decide +kernel)⟩
theorem lw_p24 : lw_okq (⟨"DitchOpen$Dug", "aboveNext", "(LDitchOpen$Reach;)I"⟩, 14) := ⟨⟨by decide +kernel, by decide +kernel⟩, List.mem_of_getElem? (i := 139) (by decide +kernel), List.mem_of_getElem? (i := 720) (by decide +kernel), List.mem_of_getElem? (i := 721) (by decide +kernel)⟩
theorem lw_p25 : lw_okq (⟨"DitchOpen$Dug", "moveWater", "()V"⟩, 14) := ⟨⟨by decide +kernel, by decide +kernel⟩, List.mem_of_getElem? (i := 139) (by decide +kernel), List.mem_of_getElem? (i := 744) (by decide +kernel), List.mem_of_getElem? (i := 745) (by decide +kernel)⟩
theorem lw_p26 : lw_okq (⟨"DitchOpen$Dug", "moveLoad", "()V"⟩, 14) := ⟨⟨by decide +kernel, by decide +kernel⟩, List.mem_of_getElem? (i := 139) (by decide +kernel), List.mem_of_getElem? (i := 748) (by decide +kernel), List.mem_of_getElem? (i := 749) (by decide +kernel)⟩
theorem lw_p27 : lw_okq (⟨"DitchOpen$Dug", "slipSides", "(I)V"⟩, 14) := ⟨⟨by decide +kernel, by decide +kernel⟩, List.mem_of_getElem? (i := 139) (by decide +kernel), List.mem_of_getElem? (i := 760) (by decide +kernel), List.mem_of_getElem? (i := 761) (by decide +kernel)⟩
theorem lw_p28 : lw_okq (⟨"DitchOpen$Dug", "draw", "()I"⟩, 14) := ⟨⟨by decide +kernel, by decide +kernel⟩, List.mem_of_getElem? (i := 139) (by decide +kernel), List.mem_of_getElem? (i := 764) (by decide +kernel), List.mem_of_getElem? (i := 765) (by decide +kernel)⟩
theorem lw_p29 : lw_okq (⟨"DitchOpen$Dug", "growReeds", "()V"⟩, 14) := ⟨⟨by decide +kernel, by decide +kernel⟩, List.mem_of_getElem? (i := 139) (by decide +kernel), List.mem_of_getElem? (i := 771) (by decide +kernel), List.mem_of_getElem? (i := 772) (by decide +kernel)⟩
theorem lw_p30 : lw_okq (⟨"DitchOpen$Dug", "wetFields", "()V"⟩, 14) := ⟨⟨by decide +kernel, by decide +kernel⟩, List.mem_of_getElem? (i := 139) (by decide +kernel), List.mem_of_getElem? (i := 775) (by decide +kernel), List.mem_of_getElem? (i := 776) (by decide +kernel)⟩
theorem lw_p31 : lw_okq (⟨"DitchOpen", "findRainOnDug", "(I)LDitchOpen$Rain;"⟩, 12) := ⟨⟨by decide +kernel, by decide +kernel⟩, List.mem_of_getElem? (i := 25) (by decide +kernel), List.mem_of_getElem? (i := 787) (by decide +kernel), List.mem_of_getElem? (i := 788) (by decide +kernel)⟩
def lw_privs_2 : List (MethodName × Nat) := [(⟨"DitchOpen", "rainSlot", "(I)LDitchOpen$Rain;"⟩, 12), (⟨"DitchOpen", "findRain", "(I)LDitchOpen$Rain;"⟩, 12), (⟨"DitchOpen", "findDitch", "(I)LDitchOpen$Ditch;"⟩, 12), (⟨"DitchOpen", "findLaw", "(I)LDitchOpen$Law;"⟩, 12), (⟨"DitchOpen$Dug", "chain", "(I)V"⟩, 14), (⟨"DitchOpen$Dug", "begin", "(LDitchOpen$Law;LDitchOpen$Law;J)V"⟩, 14), (⟨"DitchOpen$Dug", "takeRain", "(I)V"⟩, 14), (⟨"DitchOpen$Dug", "setFlows", "(I)V"⟩, 14), (⟨"DitchOpen$Dug", "aboveNext", "(LDitchOpen$Reach;)I"⟩, 14), (⟨"DitchOpen$Dug", "moveWater", "()V"⟩, 14), (⟨"DitchOpen$Dug", "moveLoad", "()V"⟩, 14), (⟨"DitchOpen$Dug", "slipSides", "(I)V"⟩, 14), (⟨"DitchOpen$Dug", "draw", "()I"⟩, 14), (⟨"DitchOpen$Dug", "growReeds", "()V"⟩, 14), (⟨"DitchOpen$Dug", "wetFields", "()V"⟩, 14), (⟨"DitchOpen", "findRainOnDug", "(I)LDitchOpen$Rain;"⟩, 12)]
theorem lw_r2 : ∀ q ∈ lw_privs_2, lw_okq q := List.forall_mem_cons.mpr ⟨lw_p16, List.forall_mem_cons.mpr ⟨lw_p17, List.forall_mem_cons.mpr ⟨lw_p18, List.forall_mem_cons.mpr ⟨lw_p19, List.forall_mem_cons.mpr ⟨lw_p20, List.forall_mem_cons.mpr ⟨lw_p21, List.forall_mem_cons.mpr ⟨lw_p22, List.forall_mem_cons.mpr ⟨lw_p23, List.forall_mem_cons.mpr ⟨lw_p24, List.forall_mem_cons.mpr ⟨lw_p25, List.forall_mem_cons.mpr ⟨lw_p26, List.forall_mem_cons.mpr ⟨lw_p27, List.forall_mem_cons.mpr ⟨lw_p28, List.forall_mem_cons.mpr ⟨lw_p29, List.forall_mem_cons.mpr ⟨lw_p30, List.forall_mem_cons.mpr ⟨lw_p31, fun _ h => absurd h List.not_mem_nil⟩⟩⟩⟩⟩⟩⟩⟩⟩⟩⟩⟩⟩⟩⟩⟩
theorem lw_p32 : lw_okq (⟨"DitchOpen$Dug", "sumOf", "(I)I"⟩, 14) := ⟨⟨by decide +kernel, by decide +kernel⟩, List.mem_of_getElem? (i := 139) (by decide +kernel), List.mem_of_getElem? (i := 819) (by decide +kernel), List.mem_of_getElem? (i := 820) (by decide +kernel)⟩
theorem lw_p33 : lw_okq (⟨"DitchOpen$Trials", "harmMoreOfAll", "()I"⟩, 3) := ⟨⟨by decide +kernel, by decide +kernel⟩, List.mem_of_getElem? (i := 264) (by decide +kernel), List.mem_of_getElem? (i := 913) (by decide +kernel), List.mem_of_getElem? (i := 914) (by decide +kernel)⟩
theorem lw_p34 : lw_okq (⟨"DitchOpen$Trials", "harmCleanedAheadOf", "(LDitchOpen$Rain;I)I"⟩, 3) := ⟨⟨by decide +kernel, by decide +kernel⟩, List.mem_of_getElem? (i := 264) (by decide +kernel), List.mem_of_getElem? (i := 944) (by decide +kernel), List.mem_of_getElem? (i := 945) (by decide +kernel)⟩
theorem lw_p35 : lw_okq (⟨"DitchOpen$Trials", "costOfEvery", "(LDitchOpen$Rain;III)I"⟩, 3) := ⟨⟨by decide +kernel, by decide +kernel⟩, List.mem_of_getElem? (i := 264) (by decide +kernel), List.mem_of_getElem? (i := 960) (by decide +kernel), List.mem_of_getElem? (i := 961) (by decide +kernel)⟩
theorem lw_p36 : lw_okq (⟨"DitchOpen$Trials", "harmByTurns", "(LDitchOpen$Rain;I)I"⟩, 3) := ⟨⟨by decide +kernel, by decide +kernel⟩, List.mem_of_getElem? (i := 264) (by decide +kernel), List.mem_of_getElem? (i := 973) (by decide +kernel), List.mem_of_getElem? (i := 974) (by decide +kernel)⟩
theorem lw_p37 : lw_okq (⟨"DitchOpen$Trials", "areTurns", "(II)Z"⟩, 3) := ⟨⟨by decide +kernel, by decide +kernel⟩, List.mem_of_getElem? (i := 264) (by decide +kernel), List.mem_of_getElem? (i := 986) (by decide +kernel), List.mem_of_getElem? (i := 987) (by decide +kernel)⟩
theorem lw_p38 : lw_okq (⟨"DitchOpen$Game", "noted", "(II)I"⟩, 6) := ⟨⟨by decide +kernel, by decide +kernel⟩, List.mem_of_getElem? (i := 280) (by decide +kernel), List.mem_of_getElem? (i := 1022) (by decide +kernel), List.mem_of_getElem? (i := 1023) (by decide +kernel)⟩
theorem lw_p39 : lw_okq (⟨"DitchOpen$Game", "paidBy", "(II)I"⟩, 6) := ⟨⟨by decide +kernel, by decide +kernel⟩, List.mem_of_getElem? (i := 280) (by decide +kernel), List.mem_of_getElem? (i := 1031) (by decide +kernel), List.mem_of_getElem? (i := 1032) (by decide +kernel)⟩
theorem lw_p40 : lw_okq (⟨"DitchOpen$Game", "spadesOf", "(I)I"⟩, 6) := ⟨⟨by decide +kernel, by decide +kernel⟩, List.mem_of_getElem? (i := 280) (by decide +kernel), List.mem_of_getElem? (i := 1035) (by decide +kernel), List.mem_of_getElem? (i := 1036) (by decide +kernel)⟩
theorem lw_p41 : lw_okq (⟨"DitchOpen$Game", "isAtRest", "(I)Z"⟩, 6) := ⟨⟨by decide +kernel, by decide +kernel⟩, List.mem_of_getElem? (i := 280) (by decide +kernel), List.mem_of_getElem? (i := 1049) (by decide +kernel), List.mem_of_getElem? (i := 1050) (by decide +kernel)⟩
theorem lw_p42 : lw_okq (⟨"DitchOpen$Staffs", "goShut", "(LDitchOpen$Rain;I)V"⟩, 3) := ⟨⟨by decide +kernel, by decide +kernel⟩, List.mem_of_getElem? (i := 306) (by decide +kernel), List.mem_of_getElem? (i := 1079) (by decide +kernel), List.mem_of_getElem? (i := 1080) (by decide +kernel)⟩
theorem lw_p43 : lw_okq (⟨"DitchOpen$Staffs", "agree", "(I)Z"⟩, 3) := ⟨⟨by decide +kernel, by decide +kernel⟩, List.mem_of_getElem? (i := 306) (by decide +kernel), List.mem_of_getElem? (i := 1086) (by decide +kernel), List.mem_of_getElem? (i := 1087) (by decide +kernel)⟩
theorem lw_p44 : lw_okq (⟨"DitchOpen$Staffs", "offAt", "(I)I"⟩, 3) := ⟨⟨by decide +kernel, by decide +kernel⟩, List.mem_of_getElem? (i := 306) (by decide +kernel), List.mem_of_getElem? (i := 1090) (by decide +kernel), List.mem_of_getElem? (i := 1091) (by decide +kernel)⟩
theorem lw_p45 : lw_okq (⟨"DitchOpen$Notches", "sumUp", "(LDitchOpen$Dug;)V"⟩, 3) := ⟨⟨by decide +kernel, by decide +kernel⟩, List.mem_of_getElem? (i := 56) (by decide +kernel), List.mem_of_getElem? (i := 1203) (by decide +kernel), List.mem_of_getElem? (i := 1204) (by decide +kernel)⟩
theorem lw_p46 : lw_okq (⟨"DitchOpen$Notches", "leastIn", "(II)I"⟩, 3) := ⟨⟨by decide +kernel, by decide +kernel⟩, List.mem_of_getElem? (i := 56) (by decide +kernel), List.mem_of_getElem? (i := 1209) (by decide +kernel), List.mem_of_getElem? (i := 1210) (by decide +kernel)⟩
theorem lw_p47 : lw_okq (⟨"DitchOpen$Notches", "workOf", "(II)I"⟩, 3) := ⟨⟨by decide +kernel, by decide +kernel⟩, List.mem_of_getElem? (i := 56) (by decide +kernel), List.mem_of_getElem? (i := 1213) (by decide +kernel), List.mem_of_getElem? (i := 1214) (by decide +kernel)⟩
def lw_privs_3 : List (MethodName × Nat) := [(⟨"DitchOpen$Dug", "sumOf", "(I)I"⟩, 14), (⟨"DitchOpen$Trials", "harmMoreOfAll", "()I"⟩, 3), (⟨"DitchOpen$Trials", "harmCleanedAheadOf", "(LDitchOpen$Rain;I)I"⟩, 3), (⟨"DitchOpen$Trials", "costOfEvery", "(LDitchOpen$Rain;III)I"⟩, 3), (⟨"DitchOpen$Trials", "harmByTurns", "(LDitchOpen$Rain;I)I"⟩, 3), (⟨"DitchOpen$Trials", "areTurns", "(II)Z"⟩, 3), (⟨"DitchOpen$Game", "noted", "(II)I"⟩, 6), (⟨"DitchOpen$Game", "paidBy", "(II)I"⟩, 6), (⟨"DitchOpen$Game", "spadesOf", "(I)I"⟩, 6), (⟨"DitchOpen$Game", "isAtRest", "(I)Z"⟩, 6), (⟨"DitchOpen$Staffs", "goShut", "(LDitchOpen$Rain;I)V"⟩, 3), (⟨"DitchOpen$Staffs", "agree", "(I)Z"⟩, 3), (⟨"DitchOpen$Staffs", "offAt", "(I)I"⟩, 3), (⟨"DitchOpen$Notches", "sumUp", "(LDitchOpen$Dug;)V"⟩, 3), (⟨"DitchOpen$Notches", "leastIn", "(II)I"⟩, 3), (⟨"DitchOpen$Notches", "workOf", "(II)I"⟩, 3)]
theorem lw_r3 : ∀ q ∈ lw_privs_3, lw_okq q := List.forall_mem_cons.mpr ⟨lw_p32, List.forall_mem_cons.mpr ⟨lw_p33, List.forall_mem_cons.mpr ⟨lw_p34, List.forall_mem_cons.mpr ⟨lw_p35, List.forall_mem_cons.mpr ⟨lw_p36, List.forall_mem_cons.mpr ⟨lw_p37, List.forall_mem_cons.mpr ⟨lw_p38, List.forall_mem_cons.mpr ⟨lw_p39, List.forall_mem_cons.mpr ⟨lw_p40, List.forall_mem_cons.mpr ⟨lw_p41, List.forall_mem_cons.mpr ⟨lw_p42, List.forall_mem_cons.mpr ⟨lw_p43, List.forall_mem_cons.mpr ⟨lw_p44, List.forall_mem_cons.mpr ⟨lw_p45, List.forall_mem_cons.mpr ⟨lw_p46, List.forall_mem_cons.mpr ⟨lw_p47, fun _ h => absurd h List.not_mem_nil⟩⟩⟩⟩⟩⟩⟩⟩⟩⟩⟩⟩⟩⟩⟩⟩
theorem lw_p48 : lw_okq (⟨"DitchOpen$Notches", "leastOf", "(II)I"⟩, 3) := ⟨⟨by decide +kernel, by decide +kernel⟩, List.mem_of_getElem? (i := 56) (by decide +kernel), List.mem_of_getElem? (i := 1217) (by decide +kernel), List.mem_of_getElem? (i := 1218) (by decide +kernel)⟩
theorem lw_p49 : lw_okq (⟨"DitchOpen$Notches", "beginOf", "(II)I"⟩, 3) := ⟨⟨by decide +kernel, by decide +kernel⟩, List.mem_of_getElem? (i := 56) (by decide +kernel), List.mem_of_getElem? (i := 1223) (by decide +kernel), List.mem_of_getElem? (i := 1224) (by decide +kernel)⟩
theorem lw_p50 : lw_okq (⟨"java/lang/Throwable", "fillInStackTrace", "(I)Ljava/lang/Throwable;"⟩, 6) := ⟨⟨by decide +kernel, by decide +kernel⟩, List.mem_of_getElem? (i := 1302) (by decide +kernel), List.mem_of_getElem? (i := 1300) (by decide +kernel), List.mem_of_getElem? (i := 1301) (by decide +kernel)⟩
theorem lw_p51 : lw_okq (⟨"DitchOpenModel", "readDitch", "(I)I"⟩, 47) := ⟨⟨by decide +kernel, by decide +kernel⟩, List.mem_of_getElem? (i := 1327) (by decide +kernel), List.mem_of_getElem? (i := 1490) (by decide +kernel), List.mem_of_getElem? (i := 1491) (by decide +kernel)⟩
theorem lw_p52 : lw_okq (⟨"DitchOpenModel", "reachOf", "(I)V"⟩, 47) := ⟨⟨by decide +kernel, by decide +kernel⟩, List.mem_of_getElem? (i := 1327) (by decide +kernel), List.mem_of_getElem? (i := 1494) (by decide +kernel), List.mem_of_getElem? (i := 1495) (by decide +kernel)⟩
theorem lw_p53 : lw_okq (⟨"DitchOpenModel", "look", "()I"⟩, 47) := ⟨⟨by decide +kernel, by decide +kernel⟩, List.mem_of_getElem? (i := 1327) (by decide +kernel), List.mem_of_getElem? (i := 1498) (by decide +kernel), List.mem_of_getElem? (i := 1499) (by decide +kernel)⟩
theorem lw_p54 : lw_okq (⟨"DitchOpenModel", "here", "()I"⟩, 47) := ⟨⟨by decide +kernel, by decide +kernel⟩, List.mem_of_getElem? (i := 1327) (by decide +kernel), List.mem_of_getElem? (i := 1502) (by decide +kernel), List.mem_of_getElem? (i := 1503) (by decide +kernel)⟩
theorem lw_p55 : lw_okq (⟨"DitchOpenModel", "bad", "()V"⟩, 47) := ⟨⟨by decide +kernel, by decide +kernel⟩, List.mem_of_getElem? (i := 1327) (by decide +kernel), List.mem_of_getElem? (i := 1506) (by decide +kernel), List.mem_of_getElem? (i := 1507) (by decide +kernel)⟩
theorem lw_p56 : lw_okq (⟨"DitchOpenModel", "number", "(II)I"⟩, 47) := ⟨⟨by decide +kernel, by decide +kernel⟩, List.mem_of_getElem? (i := 1327) (by decide +kernel), List.mem_of_getElem? (i := 1516) (by decide +kernel), List.mem_of_getElem? (i := 1517) (by decide +kernel)⟩
theorem lw_p57 : lw_okq (⟨"DitchOpenModel", "readLaw", "(I)I"⟩, 47) := ⟨⟨by decide +kernel, by decide +kernel⟩, List.mem_of_getElem? (i := 1327) (by decide +kernel), List.mem_of_getElem? (i := 1526) (by decide +kernel), List.mem_of_getElem? (i := 1527) (by decide +kernel)⟩
theorem lw_p58 : lw_okq (⟨"DitchOpenModel", "open", "(I)V"⟩, 47) := ⟨⟨by decide +kernel, by decide +kernel⟩, List.mem_of_getElem? (i := 1327) (by decide +kernel), List.mem_of_getElem? (i := 1530) (by decide +kernel), List.mem_of_getElem? (i := 1531) (by decide +kernel)⟩
theorem lw_p59 : lw_okq (⟨"DitchOpenModel", "clause", "()V"⟩, 47) := ⟨⟨by decide +kernel, by decide +kernel⟩, List.mem_of_getElem? (i := 1327) (by decide +kernel), List.mem_of_getElem? (i := 1534) (by decide +kernel), List.mem_of_getElem? (i := 1535) (by decide +kernel)⟩
theorem lw_p60 : lw_okq (⟨"DitchOpenModel", "condition", "()V"⟩, 47) := ⟨⟨by decide +kernel, by decide +kernel⟩, List.mem_of_getElem? (i := 1327) (by decide +kernel), List.mem_of_getElem? (i := 1538) (by decide +kernel), List.mem_of_getElem? (i := 1539) (by decide +kernel)⟩
theorem lw_p61 : lw_okq (⟨"DitchOpenModel", "unit", "()V"⟩, 47) := ⟨⟨by decide +kernel, by decide +kernel⟩, List.mem_of_getElem? (i := 1327) (by decide +kernel), List.mem_of_getElem? (i := 1542) (by decide +kernel), List.mem_of_getElem? (i := 1543) (by decide +kernel)⟩
theorem lw_p62 : lw_okq (⟨"DitchOpenModel", "opens", "()V"⟩, 47) := ⟨⟨by decide +kernel, by decide +kernel⟩, List.mem_of_getElem? (i := 1327) (by decide +kernel), List.mem_of_getElem? (i := 1546) (by decide +kernel), List.mem_of_getElem? (i := 1547) (by decide +kernel)⟩
theorem lw_p63 : lw_okq (⟨"DitchOpenModel", "put", "(II)V"⟩, 47) := ⟨⟨by decide +kernel, by decide +kernel⟩, List.mem_of_getElem? (i := 1327) (by decide +kernel), List.mem_of_getElem? (i := 1550) (by decide +kernel), List.mem_of_getElem? (i := 1551) (by decide +kernel)⟩
def lw_privs_4 : List (MethodName × Nat) := [(⟨"DitchOpen$Notches", "leastOf", "(II)I"⟩, 3), (⟨"DitchOpen$Notches", "beginOf", "(II)I"⟩, 3), (⟨"java/lang/Throwable", "fillInStackTrace", "(I)Ljava/lang/Throwable;"⟩, 6), (⟨"DitchOpenModel", "readDitch", "(I)I"⟩, 47), (⟨"DitchOpenModel", "reachOf", "(I)V"⟩, 47), (⟨"DitchOpenModel", "look", "()I"⟩, 47), (⟨"DitchOpenModel", "here", "()I"⟩, 47), (⟨"DitchOpenModel", "bad", "()V"⟩, 47), (⟨"DitchOpenModel", "number", "(II)I"⟩, 47), (⟨"DitchOpenModel", "readLaw", "(I)I"⟩, 47), (⟨"DitchOpenModel", "open", "(I)V"⟩, 47), (⟨"DitchOpenModel", "clause", "()V"⟩, 47), (⟨"DitchOpenModel", "condition", "()V"⟩, 47), (⟨"DitchOpenModel", "unit", "()V"⟩, 47), (⟨"DitchOpenModel", "opens", "()V"⟩, 47), (⟨"DitchOpenModel", "put", "(II)V"⟩, 47)]
theorem lw_r4 : ∀ q ∈ lw_privs_4, lw_okq q := List.forall_mem_cons.mpr ⟨lw_p48, List.forall_mem_cons.mpr ⟨lw_p49, List.forall_mem_cons.mpr ⟨lw_p50, List.forall_mem_cons.mpr ⟨lw_p51, List.forall_mem_cons.mpr ⟨lw_p52, List.forall_mem_cons.mpr ⟨lw_p53, List.forall_mem_cons.mpr ⟨lw_p54, List.forall_mem_cons.mpr ⟨lw_p55, List.forall_mem_cons.mpr ⟨lw_p56, List.forall_mem_cons.mpr ⟨lw_p57, List.forall_mem_cons.mpr ⟨lw_p58, List.forall_mem_cons.mpr ⟨lw_p59, List.forall_mem_cons.mpr ⟨lw_p60, List.forall_mem_cons.mpr ⟨lw_p61, List.forall_mem_cons.mpr ⟨lw_p62, List.forall_mem_cons.mpr ⟨lw_p63, fun _ h => absurd h List.not_mem_nil⟩⟩⟩⟩⟩⟩⟩⟩⟩⟩⟩⟩⟩⟩⟩⟩
theorem lw_p64 : lw_okq (⟨"DitchOpenModel", "closes", "(I)V"⟩, 47) := ⟨⟨by decide +kernel, by decide +kernel⟩, List.mem_of_getElem? (i := 1327) (by decide +kernel), List.mem_of_getElem? (i := 1554) (by decide +kernel), List.mem_of_getElem? (i := 1555) (by decide +kernel)⟩
theorem lw_p65 : lw_okq (⟨"DitchOpenModel", "sum", "()V"⟩, 47) := ⟨⟨by decide +kernel, by decide +kernel⟩, List.mem_of_getElem? (i := 1327) (by decide +kernel), List.mem_of_getElem? (i := 1558) (by decide +kernel), List.mem_of_getElem? (i := 1559) (by decide +kernel)⟩
theorem lw_p66 : lw_okq (⟨"DitchOpenModel", "term", "()V"⟩, 47) := ⟨⟨by decide +kernel, by decide +kernel⟩, List.mem_of_getElem? (i := 1327) (by decide +kernel), List.mem_of_getElem? (i := 1562) (by decide +kernel), List.mem_of_getElem? (i := 1563) (by decide +kernel)⟩
theorem lw_p67 : lw_okq (⟨"DitchOpenModel", "atom", "()V"⟩, 47) := ⟨⟨by decide +kernel, by decide +kernel⟩, List.mem_of_getElem? (i := 1327) (by decide +kernel), List.mem_of_getElem? (i := 1566) (by decide +kernel), List.mem_of_getElem? (i := 1567) (by decide +kernel)⟩
theorem lw_p68 : lw_okq (⟨"DitchOpenModel", "plainNumber", "()I"⟩, 47) := ⟨⟨by decide +kernel, by decide +kernel⟩, List.mem_of_getElem? (i := 1327) (by decide +kernel), List.mem_of_getElem? (i := 1570) (by decide +kernel), List.mem_of_getElem? (i := 1571) (by decide +kernel)⟩
theorem lw_p69 : lw_okq (⟨"DitchOpenModel", "compare", "()V"⟩, 47) := ⟨⟨by decide +kernel, by decide +kernel⟩, List.mem_of_getElem? (i := 1327) (by decide +kernel), List.mem_of_getElem? (i := 1577) (by decide +kernel), List.mem_of_getElem? (i := 1578) (by decide +kernel)⟩
theorem lw_p70 : lw_okq (⟨"DitchOpenModel", "goOnAnd", "()V"⟩, 47) := ⟨⟨by decide +kernel, by decide +kernel⟩, List.mem_of_getElem? (i := 1327) (by decide +kernel), List.mem_of_getElem? (i := 1584) (by decide +kernel), List.mem_of_getElem? (i := 1585) (by decide +kernel)⟩
theorem lw_p71 : lw_okq (⟨"DitchOpenModel", "goOnOr", "()V"⟩, 47) := ⟨⟨by decide +kernel, by decide +kernel⟩, List.mem_of_getElem? (i := 1327) (by decide +kernel), List.mem_of_getElem? (i := 1588) (by decide +kernel), List.mem_of_getElem? (i := 1589) (by decide +kernel)⟩
theorem lw_p72 : lw_okq (⟨"DitchOpenModel", "atEnd", "()I"⟩, 47) := ⟨⟨by decide +kernel, by decide +kernel⟩, List.mem_of_getElem? (i := 1327) (by decide +kernel), List.mem_of_getElem? (i := 1592) (by decide +kernel), List.mem_of_getElem? (i := 1593) (by decide +kernel)⟩
theorem lw_p73 : lw_okq (⟨"DitchOpenModel", "readRain", "(I)I"⟩, 47) := ⟨⟨by decide +kernel, by decide +kernel⟩, List.mem_of_getElem? (i := 1327) (by decide +kernel), List.mem_of_getElem? (i := 1596) (by decide +kernel), List.mem_of_getElem? (i := 1597) (by decide +kernel)⟩
theorem lw_p74 : lw_okq (⟨"DitchOpenModel", "isDitch", "(I)Z"⟩, 47) := ⟨⟨by decide +kernel, by decide +kernel⟩, List.mem_of_getElem? (i := 1327) (by decide +kernel), List.mem_of_getElem? (i := 1608) (by decide +kernel), List.mem_of_getElem? (i := 1609) (by decide +kernel)⟩
theorem lw_p75 : lw_okq (⟨"DitchOpenModel", "isRain", "(I)Z"⟩, 47) := ⟨⟨by decide +kernel, by decide +kernel⟩, List.mem_of_getElem? (i := 1327) (by decide +kernel), List.mem_of_getElem? (i := 1616) (by decide +kernel), List.mem_of_getElem? (i := 1617) (by decide +kernel)⟩
theorem lw_p76 : lw_okq (⟨"DitchOpenModel", "isLaw", "(I)Z"⟩, 47) := ⟨⟨by decide +kernel, by decide +kernel⟩, List.mem_of_getElem? (i := 1327) (by decide +kernel), List.mem_of_getElem? (i := 1628) (by decide +kernel), List.mem_of_getElem? (i := 1629) (by decide +kernel)⟩
theorem lw_p77 : lw_okq (⟨"DitchOpenModel", "layOut", "(I)V"⟩, 47) := ⟨⟨by decide +kernel, by decide +kernel⟩, List.mem_of_getElem? (i := 1327) (by decide +kernel), List.mem_of_getElem? (i := 1632) (by decide +kernel), List.mem_of_getElem? (i := 1633) (by decide +kernel)⟩
theorem lw_p78 : lw_okq (⟨"DitchOpenModel", "begin", "(IIJ)V"⟩, 47) := ⟨⟨by decide +kernel, by decide +kernel⟩, List.mem_of_getElem? (i := 1327) (by decide +kernel), List.mem_of_getElem? (i := 1636) (by decide +kernel), List.mem_of_getElem? (i := 1637) (by decide +kernel)⟩
theorem lw_p79 : lw_okq (⟨"DitchOpenModel", "dayOf", "(I)V"⟩, 47) := ⟨⟨by decide +kernel, by decide +kernel⟩, List.mem_of_getElem? (i := 1327) (by decide +kernel), List.mem_of_getElem? (i := 1644) (by decide +kernel), List.mem_of_getElem? (i := 1645) (by decide +kernel)⟩
def lw_privs_5 : List (MethodName × Nat) := [(⟨"DitchOpenModel", "closes", "(I)V"⟩, 47), (⟨"DitchOpenModel", "sum", "()V"⟩, 47), (⟨"DitchOpenModel", "term", "()V"⟩, 47), (⟨"DitchOpenModel", "atom", "()V"⟩, 47), (⟨"DitchOpenModel", "plainNumber", "()I"⟩, 47), (⟨"DitchOpenModel", "compare", "()V"⟩, 47), (⟨"DitchOpenModel", "goOnAnd", "()V"⟩, 47), (⟨"DitchOpenModel", "goOnOr", "()V"⟩, 47), (⟨"DitchOpenModel", "atEnd", "()I"⟩, 47), (⟨"DitchOpenModel", "readRain", "(I)I"⟩, 47), (⟨"DitchOpenModel", "isDitch", "(I)Z"⟩, 47), (⟨"DitchOpenModel", "isRain", "(I)Z"⟩, 47), (⟨"DitchOpenModel", "isLaw", "(I)Z"⟩, 47), (⟨"DitchOpenModel", "layOut", "(I)V"⟩, 47), (⟨"DitchOpenModel", "begin", "(IIJ)V"⟩, 47), (⟨"DitchOpenModel", "dayOf", "(I)V"⟩, 47)]
theorem lw_r5 : ∀ q ∈ lw_privs_5, lw_okq q := List.forall_mem_cons.mpr ⟨lw_p64, List.forall_mem_cons.mpr ⟨lw_p65, List.forall_mem_cons.mpr ⟨lw_p66, List.forall_mem_cons.mpr ⟨lw_p67, List.forall_mem_cons.mpr ⟨lw_p68, List.forall_mem_cons.mpr ⟨lw_p69, List.forall_mem_cons.mpr ⟨lw_p70, List.forall_mem_cons.mpr ⟨lw_p71, List.forall_mem_cons.mpr ⟨lw_p72, List.forall_mem_cons.mpr ⟨lw_p73, List.forall_mem_cons.mpr ⟨lw_p74, List.forall_mem_cons.mpr ⟨lw_p75, List.forall_mem_cons.mpr ⟨lw_p76, List.forall_mem_cons.mpr ⟨lw_p77, List.forall_mem_cons.mpr ⟨lw_p78, List.forall_mem_cons.mpr ⟨lw_p79, fun _ h => absurd h List.not_mem_nil⟩⟩⟩⟩⟩⟩⟩⟩⟩⟩⟩⟩⟩⟩⟩⟩
theorem lw_p80 : lw_okq (⟨"DitchOpenModel", "round", "(I)V"⟩, 47) := ⟨⟨by decide +kernel, by decide +kernel⟩, List.mem_of_getElem? (i := 1327) (by decide +kernel), List.mem_of_getElem? (i := 1648) (by decide +kernel), List.mem_of_getElem? (i := 1649) (by decide +kernel)⟩
theorem lw_p81 : lw_okq (⟨"DitchOpenModel", "levelOf", "(I)I"⟩, 47) := ⟨⟨by decide +kernel, by decide +kernel⟩, List.mem_of_getElem? (i := 1327) (by decide +kernel), List.mem_of_getElem? (i := 1652) (by decide +kernel), List.mem_of_getElem? (i := 1653) (by decide +kernel)⟩
theorem lw_p82 : lw_okq (⟨"DitchOpenModel", "its", "(II)I"⟩, 47) := ⟨⟨by decide +kernel, by decide +kernel⟩, List.mem_of_getElem? (i := 1327) (by decide +kernel), List.mem_of_getElem? (i := 1656) (by decide +kernel), List.mem_of_getElem? (i := 1657) (by decide +kernel)⟩
theorem lw_p83 : lw_okq (⟨"DitchOpenModel", "nextLevel", "(I)I"⟩, 47) := ⟨⟨by decide +kernel, by decide +kernel⟩, List.mem_of_getElem? (i := 1327) (by decide +kernel), List.mem_of_getElem? (i := 1660) (by decide +kernel), List.mem_of_getElem? (i := 1661) (by decide +kernel)⟩
theorem lw_p84 : lw_okq (⟨"DitchOpenModel", "asked", "(III)I"⟩, 47) := ⟨⟨by decide +kernel, by decide +kernel⟩, List.mem_of_getElem? (i := 1327) (by decide +kernel), List.mem_of_getElem? (i := 1664) (by decide +kernel), List.mem_of_getElem? (i := 1665) (by decide +kernel)⟩
theorem lw_p85 : lw_okq (⟨"DitchOpenModel", "worthOf", "(I)I"⟩, 47) := ⟨⟨by decide +kernel, by decide +kernel⟩, List.mem_of_getElem? (i := 1327) (by decide +kernel), List.mem_of_getElem? (i := 1668) (by decide +kernel), List.mem_of_getElem? (i := 1669) (by decide +kernel)⟩
theorem lw_p86 : lw_okq (⟨"DitchOpenModel", "workOut", "(III)I"⟩, 47) := ⟨⟨by decide +kernel, by decide +kernel⟩, List.mem_of_getElem? (i := 1327) (by decide +kernel), List.mem_of_getElem? (i := 1672) (by decide +kernel), List.mem_of_getElem? (i := 1673) (by decide +kernel)⟩
theorem lw_p87 : lw_okq (⟨"DitchOpenModel", "settle", "(I)V"⟩, 47) := ⟨⟨by decide +kernel, by decide +kernel⟩, List.mem_of_getElem? (i := 1327) (by decide +kernel), List.mem_of_getElem? (i := 1690) (by decide +kernel), List.mem_of_getElem? (i := 1691) (by decide +kernel)⟩
theorem lw_p88 : lw_okq (⟨"DitchOpenModel", "draw", "()I"⟩, 47) := ⟨⟨by decide +kernel, by decide +kernel⟩, List.mem_of_getElem? (i := 1327) (by decide +kernel), List.mem_of_getElem? (i := 1694) (by decide +kernel), List.mem_of_getElem? (i := 1695) (by decide +kernel)⟩
theorem lw_p89 : lw_okq (⟨"DitchOpenModel", "runOf", "(I)V"⟩, 47) := ⟨⟨by decide +kernel, by decide +kernel⟩, List.mem_of_getElem? (i := 1327) (by decide +kernel), List.mem_of_getElem? (i := 1706) (by decide +kernel), List.mem_of_getElem? (i := 1707) (by decide +kernel)⟩
theorem lw_p90 : lw_okq (⟨"DitchOpenModel", "sumOf", "(II)I"⟩, 47) := ⟨⟨by decide +kernel, by decide +kernel⟩, List.mem_of_getElem? (i := 1327) (by decide +kernel), List.mem_of_getElem? (i := 1718) (by decide +kernel), List.mem_of_getElem? (i := 1719) (by decide +kernel)⟩
theorem lw_p91 : lw_okq (⟨"DitchOpenModel", "cleanOf", "(I)I"⟩, 47) := ⟨⟨by decide +kernel, by decide +kernel⟩, List.mem_of_getElem? (i := 1327) (by decide +kernel), List.mem_of_getElem? (i := 1733) (by decide +kernel), List.mem_of_getElem? (i := 1734) (by decide +kernel)⟩
theorem lw_p92 : lw_okq (⟨"DitchOpenModel", "triedOf", "(III)I"⟩, 47) := ⟨⟨by decide +kernel, by decide +kernel⟩, List.mem_of_getElem? (i := 1327) (by decide +kernel), List.mem_of_getElem? (i := 1745) (by decide +kernel), List.mem_of_getElem? (i := 1746) (by decide +kernel)⟩
theorem lw_p93 : lw_okq (⟨"DitchOpenModel", "putAside", "()V"⟩, 47) := ⟨⟨by decide +kernel, by decide +kernel⟩, List.mem_of_getElem? (i := 1327) (by decide +kernel), List.mem_of_getElem? (i := 1749) (by decide +kernel), List.mem_of_getElem? (i := 1750) (by decide +kernel)⟩
theorem lw_p94 : lw_okq (⟨"DitchOpenModel", "harmOf", "(I)I"⟩, 47) := ⟨⟨by decide +kernel, by decide +kernel⟩, List.mem_of_getElem? (i := 1327) (by decide +kernel), List.mem_of_getElem? (i := 1753) (by decide +kernel), List.mem_of_getElem? (i := 1754) (by decide +kernel)⟩
theorem lw_p95 : lw_okq (⟨"DitchOpenModel", "cleanAll", "(I)V"⟩, 47) := ⟨⟨by decide +kernel, by decide +kernel⟩, List.mem_of_getElem? (i := 1327) (by decide +kernel), List.mem_of_getElem? (i := 1757) (by decide +kernel), List.mem_of_getElem? (i := 1758) (by decide +kernel)⟩
def lw_privs_6 : List (MethodName × Nat) := [(⟨"DitchOpenModel", "round", "(I)V"⟩, 47), (⟨"DitchOpenModel", "levelOf", "(I)I"⟩, 47), (⟨"DitchOpenModel", "its", "(II)I"⟩, 47), (⟨"DitchOpenModel", "nextLevel", "(I)I"⟩, 47), (⟨"DitchOpenModel", "asked", "(III)I"⟩, 47), (⟨"DitchOpenModel", "worthOf", "(I)I"⟩, 47), (⟨"DitchOpenModel", "workOut", "(III)I"⟩, 47), (⟨"DitchOpenModel", "settle", "(I)V"⟩, 47), (⟨"DitchOpenModel", "draw", "()I"⟩, 47), (⟨"DitchOpenModel", "runOf", "(I)V"⟩, 47), (⟨"DitchOpenModel", "sumOf", "(II)I"⟩, 47), (⟨"DitchOpenModel", "cleanOf", "(I)I"⟩, 47), (⟨"DitchOpenModel", "triedOf", "(III)I"⟩, 47), (⟨"DitchOpenModel", "putAside", "()V"⟩, 47), (⟨"DitchOpenModel", "harmOf", "(I)I"⟩, 47), (⟨"DitchOpenModel", "cleanAll", "(I)V"⟩, 47)]
theorem lw_r6 : ∀ q ∈ lw_privs_6, lw_okq q := List.forall_mem_cons.mpr ⟨lw_p80, List.forall_mem_cons.mpr ⟨lw_p81, List.forall_mem_cons.mpr ⟨lw_p82, List.forall_mem_cons.mpr ⟨lw_p83, List.forall_mem_cons.mpr ⟨lw_p84, List.forall_mem_cons.mpr ⟨lw_p85, List.forall_mem_cons.mpr ⟨lw_p86, List.forall_mem_cons.mpr ⟨lw_p87, List.forall_mem_cons.mpr ⟨lw_p88, List.forall_mem_cons.mpr ⟨lw_p89, List.forall_mem_cons.mpr ⟨lw_p90, List.forall_mem_cons.mpr ⟨lw_p91, List.forall_mem_cons.mpr ⟨lw_p92, List.forall_mem_cons.mpr ⟨lw_p93, List.forall_mem_cons.mpr ⟨lw_p94, List.forall_mem_cons.mpr ⟨lw_p95, fun _ h => absurd h List.not_mem_nil⟩⟩⟩⟩⟩⟩⟩⟩⟩⟩⟩⟩⟩⟩⟩⟩
theorem lw_p96 : lw_okq (⟨"DitchOpenModel", "takeBack", "()V"⟩, 47) := ⟨⟨by decide +kernel, by decide +kernel⟩, List.mem_of_getElem? (i := 1327) (by decide +kernel), List.mem_of_getElem? (i := 1761) (by decide +kernel), List.mem_of_getElem? (i := 1762) (by decide +kernel)⟩
theorem lw_p97 : lw_okq (⟨"DitchOpenModel", "owners", "()I"⟩, 47) := ⟨⟨by decide +kernel, by decide +kernel⟩, List.mem_of_getElem? (i := 1327) (by decide +kernel), List.mem_of_getElem? (i := 1774) (by decide +kernel), List.mem_of_getElem? (i := 1775) (by decide +kernel)⟩
theorem lw_p98 : lw_okq (⟨"DitchOpenModel", "isGame", "(IIII)Z"⟩, 47) := ⟨⟨by decide +kernel, by decide +kernel⟩, List.mem_of_getElem? (i := 1327) (by decide +kernel), List.mem_of_getElem? (i := 1787) (by decide +kernel), List.mem_of_getElem? (i := 1788) (by decide +kernel)⟩
theorem lw_p99 : lw_okq (⟨"DitchOpenModel", "weigh", "(IIIII)V"⟩, 47) := ⟨⟨by decide +kernel, by decide +kernel⟩, List.mem_of_getElem? (i := 1327) (by decide +kernel), List.mem_of_getElem? (i := 1791) (by decide +kernel), List.mem_of_getElem? (i := 1792) (by decide +kernel)⟩
theorem lw_p100 : lw_okq (⟨"DitchOpenModel", "weighAll", "(IIII)V"⟩, 47) := ⟨⟨by decide +kernel, by decide +kernel⟩, List.mem_of_getElem? (i := 1327) (by decide +kernel), List.mem_of_getElem? (i := 1799) (by decide +kernel), List.mem_of_getElem? (i := 1800) (by decide +kernel)⟩
theorem lw_p101 : lw_okq (⟨"DitchOpenModel", "isAtRest", "(I)Z"⟩, 47) := ⟨⟨by decide +kernel, by decide +kernel⟩, List.mem_of_getElem? (i := 1327) (by decide +kernel), List.mem_of_getElem? (i := 1803) (by decide +kernel), List.mem_of_getElem? (i := 1804) (by decide +kernel)⟩
theorem lw_p102 : lw_okq (⟨"DitchOpenModel", "measure", "(II)V"⟩, 47) := ⟨⟨by decide +kernel, by decide +kernel⟩, List.mem_of_getElem? (i := 1327) (by decide +kernel), List.mem_of_getElem? (i := 1819) (by decide +kernel), List.mem_of_getElem? (i := 1820) (by decide +kernel)⟩
theorem lw_p103 : lw_okq (⟨"DitchOpenModel", "isAsked", "(II)Z"⟩, 47) := ⟨⟨by decide +kernel, by decide +kernel⟩, List.mem_of_getElem? (i := 1327) (by decide +kernel), List.mem_of_getElem? (i := 1836) (by decide +kernel), List.mem_of_getElem? (i := 1837) (by decide +kernel)⟩
theorem lw_p104 : lw_okq (⟨"DitchOpenModel", "again", "(IIIII)V"⟩, 47) := ⟨⟨by decide +kernel, by decide +kernel⟩, List.mem_of_getElem? (i := 1327) (by decide +kernel), List.mem_of_getElem? (i := 1840) (by decide +kernel), List.mem_of_getElem? (i := 1841) (by decide +kernel)⟩
theorem lw_p105 : lw_okq (⟨"DitchOpenModel", "costOf", "(IIII)I"⟩, 47) := ⟨⟨by decide +kernel, by decide +kernel⟩, List.mem_of_getElem? (i := 1327) (by decide +kernel), List.mem_of_getElem? (i := 1856) (by decide +kernel), List.mem_of_getElem? (i := 1857) (by decide +kernel)⟩
theorem lw_p106 : lw_okq (⟨"DitchOpenModel", "byTurns", "(I)I"⟩, 47) := ⟨⟨by decide +kernel, by decide +kernel⟩, List.mem_of_getElem? (i := 1327) (by decide +kernel), List.mem_of_getElem? (i := 1864) (by decide +kernel), List.mem_of_getElem? (i := 1865) (by decide +kernel)⟩
theorem lw_p107 : lw_okq (⟨"DitchOpenModel", "layTurns", "(II)Z"⟩, 47) := ⟨⟨by decide +kernel, by decide +kernel⟩, List.mem_of_getElem? (i := 1327) (by decide +kernel), List.mem_of_getElem? (i := 1872) (by decide +kernel), List.mem_of_getElem? (i := 1873) (by decide +kernel)⟩
theorem lw_p108 : lw_okq (⟨"DitchOpenModel", "mudBehind", "(III)I"⟩, 47) := ⟨⟨by decide +kernel, by decide +kernel⟩, List.mem_of_getElem? (i := 1327) (by decide +kernel), List.mem_of_getElem? (i := 1880) (by decide +kernel), List.mem_of_getElem? (i := 1881) (by decide +kernel)⟩
theorem lw_p109 : lw_okq (⟨"DitchOpenModel", "workOfRow", "(II)I"⟩, 47) := ⟨⟨by decide +kernel, by decide +kernel⟩, List.mem_of_getElem? (i := 1327) (by decide +kernel), List.mem_of_getElem? (i := 1888) (by decide +kernel), List.mem_of_getElem? (i := 1889) (by decide +kernel)⟩
theorem lw_p110 : lw_okq (⟨"DitchOpenModel", "workOf", "(I)I"⟩, 47) := ⟨⟨by decide +kernel, by decide +kernel⟩, List.mem_of_getElem? (i := 1327) (by decide +kernel), List.mem_of_getElem? (i := 1892) (by decide +kernel), List.mem_of_getElem? (i := 1893) (by decide +kernel)⟩
theorem lw_p111 : lw_okq (⟨"DitchOpenModel", "share", "()V"⟩, 47) := ⟨⟨by decide +kernel, by decide +kernel⟩, List.mem_of_getElem? (i := 1327) (by decide +kernel), List.mem_of_getElem? (i := 1900) (by decide +kernel), List.mem_of_getElem? (i := 1901) (by decide +kernel)⟩
def lw_privs_7 : List (MethodName × Nat) := [(⟨"DitchOpenModel", "takeBack", "()V"⟩, 47), (⟨"DitchOpenModel", "owners", "()I"⟩, 47), (⟨"DitchOpenModel", "isGame", "(IIII)Z"⟩, 47), (⟨"DitchOpenModel", "weigh", "(IIIII)V"⟩, 47), (⟨"DitchOpenModel", "weighAll", "(IIII)V"⟩, 47), (⟨"DitchOpenModel", "isAtRest", "(I)Z"⟩, 47), (⟨"DitchOpenModel", "measure", "(II)V"⟩, 47), (⟨"DitchOpenModel", "isAsked", "(II)Z"⟩, 47), (⟨"DitchOpenModel", "again", "(IIIII)V"⟩, 47), (⟨"DitchOpenModel", "costOf", "(IIII)I"⟩, 47), (⟨"DitchOpenModel", "byTurns", "(I)I"⟩, 47), (⟨"DitchOpenModel", "layTurns", "(II)Z"⟩, 47), (⟨"DitchOpenModel", "mudBehind", "(III)I"⟩, 47), (⟨"DitchOpenModel", "workOfRow", "(II)I"⟩, 47), (⟨"DitchOpenModel", "workOf", "(I)I"⟩, 47), (⟨"DitchOpenModel", "share", "()V"⟩, 47)]
theorem lw_r7 : ∀ q ∈ lw_privs_7, lw_okq q := List.forall_mem_cons.mpr ⟨lw_p96, List.forall_mem_cons.mpr ⟨lw_p97, List.forall_mem_cons.mpr ⟨lw_p98, List.forall_mem_cons.mpr ⟨lw_p99, List.forall_mem_cons.mpr ⟨lw_p100, List.forall_mem_cons.mpr ⟨lw_p101, List.forall_mem_cons.mpr ⟨lw_p102, List.forall_mem_cons.mpr ⟨lw_p103, List.forall_mem_cons.mpr ⟨lw_p104, List.forall_mem_cons.mpr ⟨lw_p105, List.forall_mem_cons.mpr ⟨lw_p106, List.forall_mem_cons.mpr ⟨lw_p107, List.forall_mem_cons.mpr ⟨lw_p108, List.forall_mem_cons.mpr ⟨lw_p109, List.forall_mem_cons.mpr ⟨lw_p110, List.forall_mem_cons.mpr ⟨lw_p111, fun _ h => absurd h List.not_mem_nil⟩⟩⟩⟩⟩⟩⟩⟩⟩⟩⟩⟩⟩⟩⟩⟩
theorem lw_p112 : lw_okq (⟨"DitchOpenModel", "harmBy", "(IIII)I"⟩, 47) := ⟨⟨by decide +kernel, by decide +kernel⟩, List.mem_of_getElem? (i := 1327) (by decide +kernel), List.mem_of_getElem? (i := 1919) (by decide +kernel), List.mem_of_getElem? (i := 1920) (by decide +kernel)⟩
def lw_privs_8 : List (MethodName × Nat) := [(⟨"DitchOpenModel", "harmBy", "(IIII)I"⟩, 47)]
theorem lw_r8 : ∀ q ∈ lw_privs_8, lw_okq q := List.forall_mem_cons.mpr ⟨lw_p112, fun _ h => absurd h List.not_mem_nil⟩
def lw_privs : List (MethodName × Nat) := lw_privs_1 ++ (lw_privs_2 ++ (lw_privs_3 ++ (lw_privs_4 ++ (lw_privs_5 ++ (lw_privs_6 ++ (lw_privs_7 ++ (lw_privs_8)))))))
def lw_tbl : List Cond := k2_sels lw_privs ++ tables_1
theorem lw_privs_ok : ∀ q ∈ lw_privs, lw_okq q := by
  show ∀ q ∈ lw_privs_1 ++ (lw_privs_2 ++ (lw_privs_3 ++ (lw_privs_4 ++ (lw_privs_5 ++ (lw_privs_6 ++ (lw_privs_7 ++ (lw_privs_8))))))), lw_okq q
  exact List.forall_mem_append.mpr ⟨lw_r1, List.forall_mem_append.mpr ⟨lw_r2, List.forall_mem_append.mpr ⟨lw_r3, List.forall_mem_append.mpr ⟨lw_r4, List.forall_mem_append.mpr ⟨lw_r5, List.forall_mem_append.mpr ⟨lw_r6, List.forall_mem_append.mpr ⟨lw_r7, lw_r8⟩⟩⟩⟩⟩⟩⟩

def RX0 : String := "DitchOpen$Ditch"
def TX0 : u_T := fun k => match k with
  | 0 => ("DitchOpen$Ditch", "told", "[[I", true)
  | _ => ("DitchOpen$Ditch", "reaches", "I", false)
def tyX0 : Nat → FieldType := fun k => match k with
  | 0 => .array (.array .int)
  | _ => .int
abbrev wsX00 : List Cond := u_ws RX0 TX0 2
theorem nmX0 : ∀ a, a < 2 → ∀ b, b < 2 → a ≠ b → (TX0 a).2.1 ≠ (TX0 b).2.1 := by decide +kernel
theorem tyX0_ok : ∀ k, k < 2 → parseFieldDescriptor (TX0 k).2.2.1 = some (tyX0 k) := by decide +kernel
abbrev cX0_init : ByteArray := prog_2_method_1_code
def yX0_init : MethodName := ⟨RX0, "<init>", "()V"⟩
abbrev cX0_reaches : ByteArray := prog_2_method_2_code
def yX0_reaches : MethodName := ⟨RX0, "reaches", "()I"⟩
abbrev cX0_tells : ByteArray := prog_2_method_3_code
def yX0_tells : MethodName := ⟨RX0, "tells", "(II)I"⟩
abbrev cX0_readFrom : ByteArray := prog_2_method_4_code
def yX0_readFrom : MethodName := ⟨RX0, "readFrom", "(LDitchOpen$Tape;)Z"⟩
abbrev cX0_readReach : ByteArray := prog_2_method_5_code
def yX0_readReach : MethodName := ⟨RX0, "readReach", "(LDitchOpen$Tape;[I)Z"⟩
abbrev cX0_readItems : ByteArray := prog_2_method_6_code
def yX0_readItems : MethodName := ⟨RX0, "readItems", "(LDitchOpen$Tape;[I)Z"⟩
abbrev cX0_readItem : ByteArray := prog_2_method_7_code
def yX0_readItem : MethodName := ⟨RX0, "readItem", "(LDitchOpen$Tape;[II)Z"⟩
def RX1 : String := "DitchOpen$Dug"
def TX1 : u_T := fun k => match k with
  | 0 => ("DitchOpen$Dug", "weather", "LDitchOpen$Weather;", true)
  | 1 => ("DitchOpen$Dug", "reaches", "[LDitchOpen$Reach;", true)
  | 2 => ("DitchOpen$Dug", "harm", "[I", true)
  | 3 => ("DitchOpen$Dug", "spent", "[I", true)
  | 4 => ("DitchOpen$Dug", "head", "LDitchOpen$Reach;", false)
  | 5 => ("DitchOpen$Dug", "size", "I", false)
  | 6 => ("DitchOpen$Dug", "flowLaw", "LDitchOpen$Law;", false)
  | 7 => ("DitchOpen$Dug", "slipLaw", "LDitchOpen$Law;", false)
  | 8 => ("DitchOpen$Dug", "seed", "J", false)
  | 9 => ("DitchOpen$Dug", "draws", "J", false)
  | 10 => ("DitchOpen$Dug", "days", "I", false)
  | 11 => ("DitchOpen$Dug", "waterOut", "I", false)
  | 12 => ("DitchOpen$Dug", "loadOut", "I", false)
  | _ => ("DitchOpen$Dug", "cut", "I", false)
def tyX1 : Nat → FieldType := fun k => match k with
  | 0 => .object "DitchOpen$Weather"
  | 1 => .array (.object "DitchOpen$Reach")
  | 2 => .array .int
  | 3 => .array .int
  | 4 => .object "DitchOpen$Reach"
  | 5 => .int
  | 6 => .object "DitchOpen$Law"
  | 7 => .object "DitchOpen$Law"
  | 8 => .long
  | 9 => .long
  | 10 => .int
  | 11 => .int
  | 12 => .int
  | _ => .int
abbrev wsX10 : List Cond := u_ws RX1 TX1 14
theorem nmX1 : ∀ a, a < 14 → ∀ b, b < 14 → a ≠ b → (TX1 a).2.1 ≠ (TX1 b).2.1 := by decide +kernel
theorem tyX1_ok : ∀ k, k < 14 → parseFieldDescriptor (TX1 k).2.2.1 = some (tyX1 k) := by decide +kernel
abbrev cX1_init : ByteArray := prog_3_method_1_code
def yX1_init : MethodName := ⟨RX1, "<init>", "(LDitchOpen$Weather;)V"⟩
abbrev cX1_isDug : ByteArray := prog_3_method_2_code
def yX1_isDug : MethodName := ⟨RX1, "isDug", "()Z"⟩
abbrev cX1_reaches : ByteArray := prog_3_method_3_code
def yX1_reaches : MethodName := ⟨RX1, "reaches", "()I"⟩
abbrev cX1_days : ByteArray := prog_3_method_4_code
def yX1_days : MethodName := ⟨RX1, "days", "()I"⟩
abbrev cX1_find : ByteArray := prog_3_method_5_code
def yX1_find : MethodName := ⟨RX1, "find", "(I)LDitchOpen$Reach;"⟩
abbrev cX1_chain : ByteArray := prog_3_method_6_code
def yX1_chain : MethodName := ⟨RX1, "chain", "(I)V"⟩
abbrev cX1_begin : ByteArray := prog_3_method_7_code
def yX1_begin : MethodName := ⟨RX1, "begin", "(LDitchOpen$Law;LDitchOpen$Law;J)V"⟩
abbrev cX1_digTold : ByteArray := prog_3_method_8_code
def yX1_digTold : MethodName := ⟨RX1, "digTold", "(LDitchOpen$Ditch;LDitchOpen$Law;LDitchOpen$Law;J)V"⟩
abbrev cX1_digLike : ByteArray := prog_3_method_9_code
def yX1_digLike : MethodName := ⟨RX1, "digLike", "(LDitchOpen$Dug;LDitchOpen$Ditch;)V"⟩
abbrev cX1_digForm : ByteArray := prog_3_method_10_code
def yX1_digForm : MethodName := ⟨RX1, "digForm", "(IIIILDitchOpen$Law;)V"⟩
abbrev cX1_becomes : ByteArray := prog_3_method_11_code
def yX1_becomes : MethodName := ⟨RX1, "becomes", "(LDitchOpen$Dug;)V"⟩
abbrev cX1_sink : ByteArray := prog_3_method_12_code
def yX1_sink : MethodName := ⟨RX1, "sink", "(I)V"⟩
abbrev cX1_raiseFields : ByteArray := prog_3_method_13_code
def yX1_raiseFields : MethodName := ⟨RX1, "raiseFields", "(II)V"⟩
abbrev cX1_goDays : ByteArray := prog_3_method_14_code
def yX1_goDays : MethodName := ⟨RX1, "goDays", "(LDitchOpen$Rain;)V"⟩
abbrev cX1_goApart : ByteArray := prog_3_method_15_code
def yX1_goApart : MethodName := ⟨RX1, "goApart", "(LDitchOpen$Dug;ILDitchOpen$Rain;)V"⟩
abbrev cX1_goDay : ByteArray := prog_3_method_16_code
def yX1_goDay : MethodName := ⟨RX1, "goDay", "(I)V"⟩
abbrev cX1_takeRain : ByteArray := prog_3_method_17_code
def yX1_takeRain : MethodName := ⟨RX1, "takeRain", "(I)V"⟩
abbrev cX1_aboveNext : ByteArray := prog_3_method_18_code
def yX1_aboveNext : MethodName := ⟨RX1, "aboveNext", "(LDitchOpen$Reach;)I"⟩
abbrev cX1_setFlows : ByteArray := prog_3_method_19_code
def yX1_setFlows : MethodName := ⟨RX1, "setFlows", "(I)V"⟩
abbrev cX1_moveWater : ByteArray := prog_3_method_20_code
def yX1_moveWater : MethodName := ⟨RX1, "moveWater", "()V"⟩
abbrev cX1_moveLoad : ByteArray := prog_3_method_21_code
def yX1_moveLoad : MethodName := ⟨RX1, "moveLoad", "()V"⟩
abbrev cX1_slipSides : ByteArray := prog_3_method_22_code
def yX1_slipSides : MethodName := ⟨RX1, "slipSides", "(I)V"⟩
abbrev cX1_draw : ByteArray := prog_3_method_23_code
def yX1_draw : MethodName := ⟨RX1, "draw", "()I"⟩
abbrev cX1_growReeds : ByteArray := prog_3_method_24_code
def yX1_growReeds : MethodName := ⟨RX1, "growReeds", "()V"⟩
abbrev cX1_wetFields : ByteArray := prog_3_method_25_code
def yX1_wetFields : MethodName := ⟨RX1, "wetFields", "()V"⟩
abbrev cX1_owners : ByteArray := prog_3_method_26_code
def yX1_owners : MethodName := ⟨RX1, "owners", "()I"⟩
abbrev cX1_reachesOf : ByteArray := prog_3_method_27_code
def yX1_reachesOf : MethodName := ⟨RX1, "reachesOf", "(I)I"⟩
abbrev cX1_harmOf : ByteArray := prog_3_method_28_code
def yX1_harmOf : MethodName := ⟨RX1, "harmOf", "(I)I"⟩
abbrev cX1_harmOfAll : ByteArray := prog_3_method_29_code
def yX1_harmOfAll : MethodName := ⟨RX1, "harmOfAll", "()I"⟩
abbrev cX1_spentOf : ByteArray := prog_3_method_30_code
def yX1_spentOf : MethodName := ⟨RX1, "spentOf", "(I)I"⟩
abbrev cX1_spadesOf : ByteArray := prog_3_method_31_code
def yX1_spadesOf : MethodName := ⟨RX1, "spadesOf", "(I)I"⟩
abbrev cX1_withMudOrReeds : ByteArray := prog_3_method_32_code
def yX1_withMudOrReeds : MethodName := ⟨RX1, "withMudOrReeds", "()I"⟩
abbrev cX1_cleanOne : ByteArray := prog_3_method_33_code
def yX1_cleanOne : MethodName := ⟨RX1, "cleanOne", "(I)I"⟩
abbrev cX1_cleanSome : ByteArray := prog_3_method_34_code
def yX1_cleanSome : MethodName := ⟨RX1, "cleanSome", "(I)I"⟩
abbrev cX1_tells : ByteArray := prog_3_method_35_code
def yX1_tells : MethodName := ⟨RX1, "tells", "(I)I"⟩
abbrev cX1_sumOf : ByteArray := prog_3_method_36_code
def yX1_sumOf : MethodName := ⟨RX1, "sumOf", "(I)I"⟩
abbrev cX1_wholeMud : ByteArray := prog_3_method_37_code
def yX1_wholeMud : MethodName := ⟨RX1, "wholeMud", "()I"⟩
abbrev cX1_wholeCut : ByteArray := prog_3_method_38_code
def yX1_wholeCut : MethodName := ⟨RX1, "wholeCut", "()I"⟩
abbrev cX1_wholeWork : ByteArray := prog_3_method_39_code
def yX1_wholeWork : MethodName := ⟨RX1, "wholeWork", "()I"⟩
abbrev cX1_muddierThan : ByteArray := prog_3_method_40_code
def yX1_muddierThan : MethodName := ⟨RX1, "muddierThan", "(I)I"⟩
abbrev cX1_muddiest : ByteArray := prog_3_method_41_code
def yX1_muddiest : MethodName := ⟨RX1, "muddiest", "()I"⟩
abbrev cX1_longestWet : ByteArray := prog_3_method_42_code
def yX1_longestWet : MethodName := ⟨RX1, "longestWet", "(Z)I"⟩
def RX2 : String := "DitchOpen$Game"
def TX2 : u_T := fun k => match k with
  | 0 => ("DitchOpen$Game", "stand", "LDitchOpen$Dug;", true)
  | 1 => ("DitchOpen$Game", "trial", "LDitchOpen$Dug;", true)
  | 2 => ("DitchOpen$Game", "harm", "[[I", true)
  | 3 => ("DitchOpen$Game", "price", "I", false)
  | 4 => ("DitchOpen$Game", "kind", "I", false)
  | _ => ("DitchOpen$Game", "fine", "I", false)
def tyX2 : Nat → FieldType := fun k => match k with
  | 0 => .object "DitchOpen$Dug"
  | 1 => .object "DitchOpen$Dug"
  | 2 => .array (.array .int)
  | 3 => .int
  | 4 => .int
  | _ => .int
abbrev wsX20 : List Cond := u_ws RX2 TX2 6
theorem nmX2 : ∀ a, a < 6 → ∀ b, b < 6 → a ≠ b → (TX2 a).2.1 ≠ (TX2 b).2.1 := by decide +kernel
theorem tyX2_ok : ∀ k, k < 6 → parseFieldDescriptor (TX2 k).2.2.1 = some (tyX2 k) := by decide +kernel
abbrev cX2_init : ByteArray := prog_4_method_1_code
def yX2_init : MethodName := ⟨RX2, "<init>", "(LDitchOpen$Dug;LDitchOpen$Dug;)V"⟩
abbrev cX2_begin : ByteArray := prog_4_method_2_code
def yX2_begin : MethodName := ⟨RX2, "begin", "(III)V"⟩
abbrev cX2_owners : ByteArray := prog_4_method_3_code
def yX2_owners : MethodName := ⟨RX2, "owners", "()I"⟩
abbrev cX2_sets : ByteArray := prog_4_method_4_code
def yX2_sets : MethodName := ⟨RX2, "sets", "()I"⟩
abbrev cX2_play : ByteArray := prog_4_method_5_code
def yX2_play : MethodName := ⟨RX2, "play", "(LDitchOpen$Rain;II)V"⟩
abbrev cX2_noted : ByteArray := prog_4_method_6_code
def yX2_noted : MethodName := ⟨RX2, "noted", "(II)I"⟩
abbrev cX2_haveOf : ByteArray := prog_4_method_7_code
def yX2_haveOf : MethodName := ⟨RX2, "haveOf", "(II)I"⟩
abbrev cX2_paidBy : ByteArray := prog_4_method_8_code
def yX2_paidBy : MethodName := ⟨RX2, "paidBy", "(II)I"⟩
abbrev cX2_spadesOf : ByteArray := prog_4_method_9_code
def yX2_spadesOf : MethodName := ⟨RX2, "spadesOf", "(I)I"⟩
abbrev cX2_isAtRest : ByteArray := prog_4_method_10_code
def yX2_isAtRest : MethodName := ⟨RX2, "isAtRest", "(I)Z"⟩
abbrev cX2_atRest : ByteArray := prog_4_method_11_code
def yX2_atRest : MethodName := ⟨RX2, "atRest", "(I)I"⟩
abbrev cX2_bestTogether : ByteArray := prog_4_method_12_code
def yX2_bestTogether : MethodName := ⟨RX2, "bestTogether", "()I"⟩
def RX3 : String := "DitchOpen$Law"
def TX3 : u_T := fun k => match k with
  | 0 => ("DitchOpen$Law", "signs", "[I", true)
  | 1 => ("DitchOpen$Law", "numbers", "[I", true)
  | 2 => ("DitchOpen$Law", "size", "I", false)
  | _ => ("DitchOpen$Law", "waiting", "[I", true)
def tyX3 : Nat → FieldType := fun k => match k with
  | 0 => .array .int
  | 1 => .array .int
  | 2 => .int
  | _ => .array .int
abbrev wsX30 : List Cond := u_ws RX3 TX3 4
theorem nmX3 : ∀ a, a < 4 → ∀ b, b < 4 → a ≠ b → (TX3 a).2.1 ≠ (TX3 b).2.1 := by decide +kernel
theorem tyX3_ok : ∀ k, k < 4 → parseFieldDescriptor (TX3 k).2.2.1 = some (tyX3 k) := by decide +kernel
abbrev cX3_init : ByteArray := prog_5_method_1_code
def yX3_init : MethodName := ⟨RX3, "<init>", "()V"⟩
abbrev cX3_readFrom : ByteArray := prog_5_method_2_code
def yX3_readFrom : MethodName := ⟨RX3, "readFrom", "(LDitchOpen$Tape;)Z"⟩
abbrev cX3_add : ByteArray := prog_5_method_3_code
def yX3_add : MethodName := ⟨RX3, "add", "(II)V"⟩
abbrev cX3_readClause : ByteArray := prog_5_method_4_code
def yX3_readClause : MethodName := ⟨RX3, "readClause", "(LDitchOpen$Tape;)Z"⟩
abbrev cX3_endAt : ByteArray := prog_5_method_5_code
def yX3_endAt : MethodName := ⟨RX3, "endAt", "(I)V"⟩
abbrev cX3_readCondition : ByteArray := prog_5_method_6_code
def yX3_readCondition : MethodName := ⟨RX3, "readCondition", "(LDitchOpen$Tape;IZ)Z"⟩
abbrev cX3_readTruth : ByteArray := prog_5_method_7_code
def yX3_readTruth : MethodName := ⟨RX3, "readTruth", "(LDitchOpen$Tape;IZ)Z"⟩
abbrev cX3_readUnit : ByteArray := prog_5_method_8_code
def yX3_readUnit : MethodName := ⟨RX3, "readUnit", "(LDitchOpen$Tape;IZ)Z"⟩
abbrev cX3_readRound : ByteArray := prog_5_method_9_code
def yX3_readRound : MethodName := ⟨RX3, "readRound", "(LDitchOpen$Tape;I)Z"⟩
abbrev cX3_isComparison : ByteArray := prog_5_method_10_code
def yX3_isComparison : MethodName := ⟨RX3, "isComparison", "(I)Z"⟩
abbrev cX3_readSum : ByteArray := prog_5_method_11_code
def yX3_readSum : MethodName := ⟨RX3, "readSum", "(LDitchOpen$Tape;I)Z"⟩
abbrev cX3_readTerm : ByteArray := prog_5_method_12_code
def yX3_readTerm : MethodName := ⟨RX3, "readTerm", "(LDitchOpen$Tape;I)Z"⟩
abbrev cX3_readAtom : ByteArray := prog_5_method_13_code
def yX3_readAtom : MethodName := ⟨RX3, "readAtom", "(LDitchOpen$Tape;I)Z"⟩
abbrev cX3_worth : ByteArray := prog_5_method_14_code
def yX3_worth : MethodName := ⟨RX3, "worth", "(LDitchOpen$Reach;II)I"⟩
abbrev cX3_within : ByteArray := prog_5_method_15_code
def yX3_within : MethodName := ⟨RX3, "within", "(J)I"⟩
abbrev cX3_letter : ByteArray := prog_5_method_16_code
def yX3_letter : MethodName := ⟨RX3, "letter", "(ILDitchOpen$Reach;II)I"⟩
abbrev cX3_joined : ByteArray := prog_5_method_17_code
def yX3_joined : MethodName := ⟨RX3, "joined", "(IJJ)J"⟩
def RX4 : String := "DitchOpen$Notches"
def TX4 : u_T := fun k => match k with
  | 0 => ("DitchOpen$Notches", "ahead", "[I", true)
  | 1 => ("DitchOpen$Notches", "least", "[[I", true)
  | _ => ("DitchOpen$Notches", "reaches", "I", false)
def tyX4 : Nat → FieldType := fun k => match k with
  | 0 => .array .int
  | 1 => .array (.array .int)
  | _ => .int
abbrev wsX40 : List Cond := u_ws RX4 TX4 3
theorem nmX4 : ∀ a, a < 3 → ∀ b, b < 3 → a ≠ b → (TX4 a).2.1 ≠ (TX4 b).2.1 := by decide +kernel
theorem tyX4_ok : ∀ k, k < 3 → parseFieldDescriptor (TX4 k).2.2.1 = some (tyX4 k) := by decide +kernel
abbrev cX4_init : ByteArray := prog_6_method_1_code
def yX4_init : MethodName := ⟨RX4, "<init>", "()V"⟩
abbrev cX4_tell : ByteArray := prog_6_method_2_code
def yX4_tell : MethodName := ⟨RX4, "tell", "(LDitchOpen$Dug;II)I"⟩
abbrev cX4_sumUp : ByteArray := prog_6_method_3_code
def yX4_sumUp : MethodName := ⟨RX4, "sumUp", "(LDitchOpen$Dug;)V"⟩
abbrev cX4_workOf : ByteArray := prog_6_method_4_code
def yX4_workOf : MethodName := ⟨RX4, "workOf", "(II)I"⟩
abbrev cX4_leastOf : ByteArray := prog_6_method_5_code
def yX4_leastOf : MethodName := ⟨RX4, "leastOf", "(II)I"⟩
abbrev cX4_leastIn : ByteArray := prog_6_method_6_code
def yX4_leastIn : MethodName := ⟨RX4, "leastIn", "(II)I"⟩
abbrev cX4_beginOf : ByteArray := prog_6_method_7_code
def yX4_beginOf : MethodName := ⟨RX4, "beginOf", "(II)I"⟩
def RX5 : String := "DitchOpen$Rain"
def TX5 : u_T := fun k => match k with
  | 0 => ("DitchOpen$Rain", "amounts", "[I", true)
  | _ => ("DitchOpen$Rain", "days", "I", false)
def tyX5 : Nat → FieldType := fun k => match k with
  | 0 => .array .int
  | _ => .int
abbrev wsX50 : List Cond := u_ws RX5 TX5 2
theorem nmX5 : ∀ a, a < 2 → ∀ b, b < 2 → a ≠ b → (TX5 a).2.1 ≠ (TX5 b).2.1 := by decide +kernel
theorem tyX5_ok : ∀ k, k < 2 → parseFieldDescriptor (TX5 k).2.2.1 = some (tyX5 k) := by decide +kernel
abbrev cX5_init : ByteArray := prog_7_method_1_code
def yX5_init : MethodName := ⟨RX5, "<init>", "()V"⟩
abbrev cX5_days : ByteArray := prog_7_method_2_code
def yX5_days : MethodName := ⟨RX5, "days", "()I"⟩
abbrev cX5_on : ByteArray := prog_7_method_3_code
def yX5_on : MethodName := ⟨RX5, "on", "(I)I"⟩
abbrev cX5_readFrom : ByteArray := prog_7_method_4_code
def yX5_readFrom : MethodName := ⟨RX5, "readFrom", "(LDitchOpen$Tape;)Z"⟩
def RX6 : String := "DitchOpen$Reach"
def TX6 : u_T := fun k => match k with
  | 0 => ("DitchOpen$Reach", "next", "LDitchOpen$Reach;", false)
  | 1 => ("DitchOpen$Reach", "soil", "I", false)
  | 2 => ("DitchOpen$Reach", "bed", "I", false)
  | 3 => ("DitchOpen$Reach", "width", "I", false)
  | 4 => ("DitchOpen$Reach", "owner", "I", false)
  | 5 => ("DitchOpen$Reach", "field", "I", false)
  | 6 => ("DitchOpen$Reach", "water", "I", false)
  | 7 => ("DitchOpen$Reach", "mud", "I", false)
  | 8 => ("DitchOpen$Reach", "reeds", "I", false)
  | 9 => ("DitchOpen$Reach", "load", "I", false)
  | 10 => ("DitchOpen$Reach", "flow", "I", false)
  | 11 => ("DitchOpen$Reach", "slips", "I", false)
  | 12 => ("DitchOpen$Reach", "wet", "Z", false)
  | 13 => ("DitchOpen$Reach", "shut", "Z", false)
  | _ => ("DitchOpen$Reach", "unsilted", "Z", false)
def tyX6 : Nat → FieldType := fun k => match k with
  | 0 => .object "DitchOpen$Reach"
  | 1 => .int
  | 2 => .int
  | 3 => .int
  | 4 => .int
  | 5 => .int
  | 6 => .int
  | 7 => .int
  | 8 => .int
  | 9 => .int
  | 10 => .int
  | 11 => .int
  | 12 => .boolean
  | 13 => .boolean
  | _ => .boolean
abbrev wsX60 : List Cond := u_ws RX6 TX6 15
theorem nmX6 : ∀ a, a < 15 → ∀ b, b < 15 → a ≠ b → (TX6 a).2.1 ≠ (TX6 b).2.1 := by decide +kernel
theorem tyX6_ok : ∀ k, k < 15 → parseFieldDescriptor (TX6 k).2.2.1 = some (tyX6 k) := by decide +kernel
abbrev cX6_init : ByteArray := prog_8_method_1_code
def yX6_init : MethodName := ⟨RX6, "<init>", "()V"⟩
abbrev cX6_digAs : ByteArray := prog_8_method_2_code
def yX6_digAs : MethodName := ⟨RX6, "digAs", "(IIIII)V"⟩
abbrev cX6_becomes : ByteArray := prog_8_method_3_code
def yX6_becomes : MethodName := ⟨RX6, "becomes", "(LDitchOpen$Reach;)V"⟩
abbrev cX6_level : ByteArray := prog_8_method_4_code
def yX6_level : MethodName := ⟨RX6, "level", "()I"⟩
abbrev cX6_spades : ByteArray := prog_8_method_5_code
def yX6_spades : MethodName := ⟨RX6, "spades", "()I"⟩
abbrev cX6_labour : ByteArray := prog_8_method_6_code
def yX6_labour : MethodName := ⟨RX6, "labour", "()I"⟩
abbrev cX6_slow : ByteArray := prog_8_method_7_code
def yX6_slow : MethodName := ⟨RX6, "slow", "()I"⟩
abbrev cX6_fast : ByteArray := prog_8_method_8_code
def yX6_fast : MethodName := ⟨RX6, "fast", "()I"⟩
abbrev cX6_tells : ByteArray := prog_8_method_9_code
def yX6_tells : MethodName := ⟨RX6, "tells", "(I)I"⟩
def RX7 : String := "DitchOpen$Staffs"
def TX7 : u_T := fun k => match k with
  | 0 => ("DitchOpen$Staffs", "stand", "LDitchOpen$Dug;", true)
  | 1 => ("DitchOpen$Staffs", "trial", "LDitchOpen$Dug;", true)
  | _ => ("DitchOpen$Staffs", "levels", "[I", true)
def tyX7 : Nat → FieldType := fun k => match k with
  | 0 => .object "DitchOpen$Dug"
  | 1 => .object "DitchOpen$Dug"
  | _ => .array .int
abbrev wsX70 : List Cond := u_ws RX7 TX7 3
theorem nmX7 : ∀ a, a < 3 → ∀ b, b < 3 → a ≠ b → (TX7 a).2.1 ≠ (TX7 b).2.1 := by decide +kernel
theorem tyX7_ok : ∀ k, k < 3 → parseFieldDescriptor (TX7 k).2.2.1 = some (tyX7 k) := by decide +kernel
abbrev cX7_init : ByteArray := prog_9_method_1_code
def yX7_init : MethodName := ⟨RX7, "<init>", "(LDitchOpen$Dug;LDitchOpen$Dug;)V"⟩
abbrev cX7_put : ByteArray := prog_9_method_2_code
def yX7_put : MethodName := ⟨RX7, "put", "(II)Z"⟩
abbrev cX7_goShut : ByteArray := prog_9_method_3_code
def yX7_goShut : MethodName := ⟨RX7, "goShut", "(LDitchOpen$Rain;I)V"⟩
abbrev cX7_offAt : ByteArray := prog_9_method_4_code
def yX7_offAt : MethodName := ⟨RX7, "offAt", "(I)I"⟩
abbrev cX7_agree : ByteArray := prog_9_method_5_code
def yX7_agree : MethodName := ⟨RX7, "agree", "(I)Z"⟩
abbrev cX7_agreeOpen : ByteArray := prog_9_method_6_code
def yX7_agreeOpen : MethodName := ⟨RX7, "agreeOpen", "(LDitchOpen$Rain;I)I"⟩
abbrev cX7_shutWhere : ByteArray := prog_9_method_7_code
def yX7_shutWhere : MethodName := ⟨RX7, "shutWhere", "(LDitchOpen$Rain;I)I"⟩
abbrev cX7_offTogether : ByteArray := prog_9_method_8_code
def yX7_offTogether : MethodName := ⟨RX7, "offTogether", "(LDitchOpen$Rain;I)I"⟩
def RX8 : String := "DitchOpen$Tape"
def TX8 : u_T := fun k => match k with
  | 0 => ("DitchOpen$Tape", "bytes", "[I", true)
  | 1 => ("DitchOpen$Tape", "length", "I", false)
  | _ => ("DitchOpen$Tape", "place", "I", false)
def tyX8 : Nat → FieldType := fun k => match k with
  | 0 => .array .int
  | 1 => .int
  | _ => .int
abbrev wsX80 : List Cond := u_ws RX8 TX8 3
theorem nmX8 : ∀ a, a < 3 → ∀ b, b < 3 → a ≠ b → (TX8 a).2.1 ≠ (TX8 b).2.1 := by decide +kernel
theorem tyX8_ok : ∀ k, k < 3 → parseFieldDescriptor (TX8 k).2.2.1 = some (tyX8 k) := by decide +kernel
abbrev cX8_init : ByteArray := prog_10_method_1_code
def yX8_init : MethodName := ⟨RX8, "<init>", "()V"⟩
abbrev cX8_takeIn : ByteArray := prog_10_method_2_code
def yX8_takeIn : MethodName := ⟨RX8, "takeIn", "(IIIII)I"⟩
abbrev cX8_bytesIn : ByteArray := prog_10_method_3_code
def yX8_bytesIn : MethodName := ⟨RX8, "bytesIn", "(I)I"⟩
abbrev cX8_append : ByteArray := prog_10_method_4_code
def yX8_append : MethodName := ⟨RX8, "append", "(I)V"⟩
abbrev cX8_cutTo : ByteArray := prog_10_method_5_code
def yX8_cutTo : MethodName := ⟨RX8, "cutTo", "(I)Z"⟩
abbrev cX8_length : ByteArray := prog_10_method_6_code
def yX8_length : MethodName := ⟨RX8, "length", "()I"⟩
abbrev cX8_place : ByteArray := prog_10_method_7_code
def yX8_place : MethodName := ⟨RX8, "place", "()I"⟩
abbrev cX8_rewind : ByteArray := prog_10_method_8_code
def yX8_rewind : MethodName := ⟨RX8, "rewind", "()V"⟩
abbrev cX8_next : ByteArray := prog_10_method_9_code
def yX8_next : MethodName := ⟨RX8, "next", "()I"⟩
abbrev cX8_step : ByteArray := prog_10_method_10_code
def yX8_step : MethodName := ⟨RX8, "step", "()V"⟩
abbrev cX8_stepBack : ByteArray := prog_10_method_11_code
def yX8_stepBack : MethodName := ⟨RX8, "stepBack", "()V"⟩
abbrev cX8_isThrough : ByteArray := prog_10_method_12_code
def yX8_isThrough : MethodName := ⟨RX8, "isThrough", "()Z"⟩
abbrev cX8_takes : ByteArray := prog_10_method_13_code
def yX8_takes : MethodName := ⟨RX8, "takes", "(I)Z"⟩
abbrev cX8_number : ByteArray := prog_10_method_14_code
def yX8_number : MethodName := ⟨RX8, "number", "(I)I"⟩
abbrev cX8_isDigit : ByteArray := prog_10_method_15_code
def yX8_isDigit : MethodName := ⟨RX8, "isDigit", "(I)Z"⟩
def RX9 : String := "DitchOpen$Trials"
def TX9 : u_T := fun k => match k with
  | 0 => ("DitchOpen$Trials", "stand", "LDitchOpen$Dug;", true)
  | 1 => ("DitchOpen$Trials", "trial", "LDitchOpen$Dug;", true)
  | _ => ("DitchOpen$Trials", "turns", "[I", true)
def tyX9 : Nat → FieldType := fun k => match k with
  | 0 => .object "DitchOpen$Dug"
  | 1 => .object "DitchOpen$Dug"
  | _ => .array .int
abbrev wsX90 : List Cond := u_ws RX9 TX9 3
theorem nmX9 : ∀ a, a < 3 → ∀ b, b < 3 → a ≠ b → (TX9 a).2.1 ≠ (TX9 b).2.1 := by decide +kernel
theorem tyX9_ok : ∀ k, k < 3 → parseFieldDescriptor (TX9 k).2.2.1 = some (tyX9 k) := by decide +kernel
abbrev cX9_init : ByteArray := prog_11_method_1_code
def yX9_init : MethodName := ⟨RX9, "<init>", "(LDitchOpen$Dug;LDitchOpen$Dug;)V"⟩
abbrev cX9_harmMore : ByteArray := prog_11_method_2_code
def yX9_harmMore : MethodName := ⟨RX9, "harmMore", "(LDitchOpen$Rain;II)I"⟩
abbrev cX9_harmMoreOfAll : ByteArray := prog_11_method_3_code
def yX9_harmMoreOfAll : MethodName := ⟨RX9, "harmMoreOfAll", "()I"⟩
abbrev cX9_firstToClean : ByteArray := prog_11_method_4_code
def yX9_firstToClean : MethodName := ⟨RX9, "firstToClean", "(LDitchOpen$Rain;)I"⟩
abbrev cX9_dayToClean : ByteArray := prog_11_method_5_code
def yX9_dayToClean : MethodName := ⟨RX9, "dayToClean", "(LDitchOpen$Rain;Z)I"⟩
abbrev cX9_harmCleanedAheadOf : ByteArray := prog_11_method_6_code
def yX9_harmCleanedAheadOf : MethodName := ⟨RX9, "harmCleanedAheadOf", "(LDitchOpen$Rain;I)I"⟩
abbrev cX9_yearsToClean : ByteArray := prog_11_method_7_code
def yX9_yearsToClean : MethodName := ⟨RX9, "yearsToClean", "(LDitchOpen$Rain;IIZ)I"⟩
abbrev cX9_costOfEvery : ByteArray := prog_11_method_8_code
def yX9_costOfEvery : MethodName := ⟨RX9, "costOfEvery", "(LDitchOpen$Rain;III)I"⟩
abbrev cX9_harmByNumbers : ByteArray := prog_11_method_9_code
def yX9_harmByNumbers : MethodName := ⟨RX9, "harmByNumbers", "(LDitchOpen$Rain;Z)I"⟩
abbrev cX9_harmByTurns : ByteArray := prog_11_method_10_code
def yX9_harmByTurns : MethodName := ⟨RX9, "harmByTurns", "(LDitchOpen$Rain;I)I"⟩
abbrev cX9_bestTurns : ByteArray := prog_11_method_11_code
def yX9_bestTurns : MethodName := ⟨RX9, "bestTurns", "(LDitchOpen$Rain;)I"⟩
abbrev cX9_areTurns : ByteArray := prog_11_method_12_code
def yX9_areTurns : MethodName := ⟨RX9, "areTurns", "(II)Z"⟩
abbrev cX9_mudBehind : ByteArray := prog_11_method_13_code
def yX9_mudBehind : MethodName := ⟨RX9, "mudBehind", "(LDitchOpen$Rain;II)I"⟩
abbrev cX9_harmWithBanks : ByteArray := prog_11_method_14_code
def yX9_harmWithBanks : MethodName := ⟨RX9, "harmWithBanks", "(LDitchOpen$Rain;III)I"⟩
abbrev cX9_higherAsItStands : ByteArray := prog_11_method_15_code
def yX9_higherAsItStands : MethodName := ⟨RX9, "higherAsItStands", "(LDitchOpen$Rain;I)I"⟩
abbrev cX9_higherAnew : ByteArray := prog_11_method_16_code
def yX9_higherAnew : MethodName := ⟨RX9, "higherAnew", "(LDitchOpen$Ditch;LDitchOpen$Rain;I)I"⟩
abbrev cX9_yearsToSink : ByteArray := prog_11_method_17_code
def yX9_yearsToSink : MethodName := ⟨RX9, "yearsToSink", "(LDitchOpen$Ditch;LDitchOpen$Rain;II)I"⟩
abbrev cX9_sandsOf : ByteArray := prog_11_method_18_code
def yX9_sandsOf : MethodName := ⟨RX9, "sandsOf", "(LDitchOpen$Ditch;LDitchOpen$Rain;I)I"⟩
abbrev cX9_fallsThatKeep : ByteArray := prog_11_method_19_code
def yX9_fallsThatKeep : MethodName := ⟨RX9, "fallsThatKeep", "(IIILDitchOpen$Law;LDitchOpen$Rain;I)I"⟩
def RX10 : String := "DitchOpen$Weather"
def TX10 : u_T := fun k => match k with
  | 0 => ("DitchOpen$Weather", "tide", "I", false)
  | 1 => ("DitchOpen$Weather", "silt", "I", false)
  | _ => ("DitchOpen$Weather", "summer", "I", false)
def tyX10 : Nat → FieldType := fun k => match k with
  | 0 => .int
  | 1 => .int
  | _ => .int
abbrev wsX100 : List Cond := u_ws RX10 TX10 3
theorem nmX10 : ∀ a, a < 3 → ∀ b, b < 3 → a ≠ b → (TX10 a).2.1 ≠ (TX10 b).2.1 := by decide +kernel
theorem tyX10_ok : ∀ k, k < 3 → parseFieldDescriptor (TX10 k).2.2.1 = some (tyX10 k) := by decide +kernel
abbrev cX10_init : ByteArray := prog_12_method_1_code
def yX10_init : MethodName := ⟨RX10, "<init>", "()V"⟩
abbrev cX10_put : ByteArray := prog_12_method_2_code
def yX10_put : MethodName := ⟨RX10, "put", "(II)Z"⟩
def RX11 : String := "DitchOpen"
def TX11 : u_T := fun k => match k with
  | 0 => ("DitchOpen", "tape", "LDitchOpen$Tape;", true)
  | 1 => ("DitchOpen", "ditches", "[LDitchOpen$Ditch;", true)
  | 2 => ("DitchOpen", "laws", "[LDitchOpen$Law;", true)
  | 3 => ("DitchOpen", "rains", "[LDitchOpen$Rain;", true)
  | 4 => ("DitchOpen", "kept", "[I", true)
  | 5 => ("DitchOpen", "weather", "LDitchOpen$Weather;", true)
  | 6 => ("DitchOpen", "stand", "LDitchOpen$Dug;", true)
  | 7 => ("DitchOpen", "image", "LDitchOpen$Dug;", true)
  | 8 => ("DitchOpen", "trials", "LDitchOpen$Trials;", true)
  | 9 => ("DitchOpen", "game", "LDitchOpen$Game;", true)
  | 10 => ("DitchOpen", "staffs", "LDitchOpen$Staffs;", true)
  | _ => ("DitchOpen", "notches", "LDitchOpen$Notches;", true)
def tyX11 : Nat → FieldType := fun k => match k with
  | 0 => .object "DitchOpen$Tape"
  | 1 => .array (.object "DitchOpen$Ditch")
  | 2 => .array (.object "DitchOpen$Law")
  | 3 => .array (.object "DitchOpen$Rain")
  | 4 => .array .int
  | 5 => .object "DitchOpen$Weather"
  | 6 => .object "DitchOpen$Dug"
  | 7 => .object "DitchOpen$Dug"
  | 8 => .object "DitchOpen$Trials"
  | 9 => .object "DitchOpen$Game"
  | 10 => .object "DitchOpen$Staffs"
  | _ => .object "DitchOpen$Notches"
abbrev wsX110 : List Cond := u_ws RX11 TX11 12
theorem nmX11 : ∀ a, a < 12 → ∀ b, b < 12 → a ≠ b → (TX11 a).2.1 ≠ (TX11 b).2.1 := by decide +kernel
theorem tyX11_ok : ∀ k, k < 12 → parseFieldDescriptor (TX11 k).2.2.1 = some (tyX11 k) := by decide +kernel
abbrev cX11_init : ByteArray := prog_1_method_1_code
def yX11_init : MethodName := ⟨RX11, "<init>", "()V"⟩
abbrev cX11_feed : ByteArray := prog_1_method_2_code
def yX11_feed : MethodName := ⟨RX11, "feed", "(IIIII)I"⟩
abbrev cX11_end : ByteArray := prog_1_method_3_code
def yX11_end : MethodName := ⟨RX11, "end", "(I)Z"⟩
abbrev cX11_fault : ByteArray := prog_1_method_4_code
def yX11_fault : MethodName := ⟨RX11, "fault", "(I)I"⟩
abbrev cX11_text : ByteArray := prog_1_method_5_code
def yX11_text : MethodName := ⟨RX11, "text", "(I)I"⟩
abbrev cX11_isRead : ByteArray := prog_1_method_6_code
def yX11_isRead : MethodName := ⟨RX11, "isRead", "(I)Z"⟩
abbrev cX11_ditchSlot : ByteArray := prog_1_method_7_code
def yX11_ditchSlot : MethodName := ⟨RX11, "ditchSlot", "(I)LDitchOpen$Ditch;"⟩
abbrev cX11_lawSlot : ByteArray := prog_1_method_8_code
def yX11_lawSlot : MethodName := ⟨RX11, "lawSlot", "(I)LDitchOpen$Law;"⟩
abbrev cX11_rainSlot : ByteArray := prog_1_method_9_code
def yX11_rainSlot : MethodName := ⟨RX11, "rainSlot", "(I)LDitchOpen$Rain;"⟩
abbrev cX11_findDitch : ByteArray := prog_1_method_10_code
def yX11_findDitch : MethodName := ⟨RX11, "findDitch", "(I)LDitchOpen$Ditch;"⟩
abbrev cX11_findLaw : ByteArray := prog_1_method_11_code
def yX11_findLaw : MethodName := ⟨RX11, "findLaw", "(I)LDitchOpen$Law;"⟩
abbrev cX11_findRain : ByteArray := prog_1_method_12_code
def yX11_findRain : MethodName := ⟨RX11, "findRain", "(I)LDitchOpen$Rain;"⟩
abbrev cX11_findRainOnDug : ByteArray := prog_1_method_13_code
def yX11_findRainOnDug : MethodName := ⟨RX11, "findRainOnDug", "(I)LDitchOpen$Rain;"⟩
abbrev cX11_isSort : ByteArray := prog_1_method_14_code
def yX11_isSort : MethodName := ⟨RX11, "isSort", "(I)Z"⟩
abbrev cX11_keptOf : ByteArray := prog_1_method_15_code
def yX11_keptOf : MethodName := ⟨RX11, "keptOf", "(I)I"⟩
abbrev cX11_isIn : ByteArray := prog_1_method_16_code
def yX11_isIn : MethodName := ⟨RX11, "isIn", "(III)Z"⟩
abbrev cX11_isOwner : ByteArray := prog_1_method_17_code
def yX11_isOwner : MethodName := ⟨RX11, "isOwner", "(I)Z"⟩
abbrev cX11_reach : ByteArray := prog_1_method_18_code
def yX11_reach : MethodName := ⟨RX11, "reach", "(III)I"⟩
abbrev cX11_rain : ByteArray := prog_1_method_19_code
def yX11_rain : MethodName := ⟨RX11, "rain", "(II)I"⟩
abbrev cX11_count : ByteArray := prog_1_method_20_code
def yX11_count : MethodName := ⟨RX11, "count", "(I)I"⟩
abbrev cX11_set : ByteArray := prog_1_method_21_code
def yX11_set : MethodName := ⟨RX11, "set", "(II)Z"⟩
abbrev cX11_dig : ByteArray := prog_1_method_22_code
def yX11_dig : MethodName := ⟨RX11, "dig", "(IIIJ)Z"⟩
abbrev cX11_day : ByteArray := prog_1_method_23_code
def yX11_day : MethodName := ⟨RX11, "day", "(I)I"⟩
abbrev cX11_run : ByteArray := prog_1_method_24_code
def yX11_run : MethodName := ⟨RX11, "run", "(I)I"⟩
abbrev cX11_at : ByteArray := prog_1_method_25_code
def yX11_at : MethodName := ⟨RX11, "at", "(II)I"⟩
abbrev cX11_all : ByteArray := prog_1_method_26_code
def yX11_all : MethodName := ⟨RX11, "all", "(I)I"⟩
abbrev cX11_owner : ByteArray := prog_1_method_27_code
def yX11_owner : MethodName := ⟨RX11, "owner", "(II)I"⟩
abbrev cX11_clean : ByteArray := prog_1_method_28_code
def yX11_clean : MethodName := ⟨RX11, "clean", "(I)I"⟩
abbrev cX11_shut : ByteArray := prog_1_method_29_code
def yX11_shut : MethodName := ⟨RX11, "shut", "(IZ)Z"⟩
abbrev cX11_longest : ByteArray := prog_1_method_30_code
def yX11_longest : MethodName := ⟨RX11, "longest", "(I)I"⟩
abbrev cX11_image : ByteArray := prog_1_method_31_code
def yX11_image : MethodName := ⟨RX11, "image", "()I"⟩
abbrev cX11_back : ByteArray := prog_1_method_32_code
def yX11_back : MethodName := ⟨RX11, "back", "()I"⟩
abbrev cX11_tried : ByteArray := prog_1_method_33_code
def yX11_tried : MethodName := ⟨RX11, "tried", "(III)I"⟩
abbrev cX11_costs : ByteArray := prog_1_method_34_code
def yX11_costs : MethodName := ⟨RX11, "costs", "(III)I"⟩
abbrev cX11_first : ByteArray := prog_1_method_35_code
def yX11_first : MethodName := ⟨RX11, "first", "(I)I"⟩
abbrev cX11_when : ByteArray := prog_1_method_36_code
def yX11_when : MethodName := ⟨RX11, "when", "(II)I"⟩
abbrev cX11_every : ByteArray := prog_1_method_37_code
def yX11_every : MethodName := ⟨RX11, "every", "(IIII)I"⟩
abbrev cX11_order : ByteArray := prog_1_method_38_code
def yX11_order : MethodName := ⟨RX11, "order", "(IZ)I"⟩
abbrev cX11_turn : ByteArray := prog_1_method_39_code
def yX11_turn : MethodName := ⟨RX11, "turn", "(I)I"⟩
abbrev cX11_isGame : ByteArray := prog_1_method_40_code
def yX11_isGame : MethodName := ⟨RX11, "isGame", "(III)Z"⟩
abbrev cX11_has : ByteArray := prog_1_method_41_code
def yX11_has : MethodName := ⟨RX11, "has", "(IIIIII)I"⟩
abbrev cX11_rests : ByteArray := prog_1_method_42_code
def yX11_rests : MethodName := ⟨RX11, "rests", "(IIIII)I"⟩
abbrev cX11_best : ByteArray := prog_1_method_43_code
def yX11_best : MethodName := ⟨RX11, "best", "(IIII)I"⟩
abbrev cX11_staff : ByteArray := prog_1_method_44_code
def yX11_staff : MethodName := ⟨RX11, "staff", "(II)Z"⟩
abbrev cX11_where : ByteArray := prog_1_method_45_code
def yX11_where : MethodName := ⟨RX11, "where", "(IIZ)I"⟩
abbrev cX11_off : ByteArray := prog_1_method_46_code
def yX11_off : MethodName := ⟨RX11, "off", "(II)I"⟩
abbrev cX11_falls : ByteArray := prog_1_method_47_code
def yX11_falls : MethodName := ⟨RX11, "falls", "(IIIIII)I"⟩
abbrev cX11_sands : ByteArray := prog_1_method_48_code
def yX11_sands : MethodName := ⟨RX11, "sands", "(III)I"⟩
abbrev cX11_sinks : ByteArray := prog_1_method_49_code
def yX11_sinks : MethodName := ⟨RX11, "sinks", "(IIII)I"⟩
abbrev cX11_raised : ByteArray := prog_1_method_50_code
def yX11_raised : MethodName := ⟨RX11, "raised", "(III)I"⟩
abbrev cX11_whose : ByteArray := prog_1_method_51_code
def yX11_whose : MethodName := ⟨RX11, "whose", "(III)I"⟩
abbrev cX11_work : ByteArray := prog_1_method_52_code
def yX11_work : MethodName := ⟨RX11, "work", "(I)I"⟩
abbrev cX11_notch : ByteArray := prog_1_method_53_code
def yX11_notch : MethodName := ⟨RX11, "notch", "(II)I"⟩
abbrev cX11_hit : ByteArray := prog_1_method_54_code
def yX11_hit : MethodName := ⟨RX11, "hit", "(II)I"⟩
abbrev cX11_waysToTake : ByteArray := prog_1_method_55_code
def yX11_waysToTake : MethodName := ⟨RX11, "waysToTake", "(II)J"⟩
abbrev cX11_banks : ByteArray := prog_1_method_56_code
def yX11_banks : MethodName := ⟨RX11, "banks", "(IIII)I"⟩
abbrev cX11_rise : ByteArray := prog_1_method_57_code
def yX11_rise : MethodName := ⟨RX11, "rise", "(II)I"⟩
def RX12 : String := "DitchOpenModel"
def TX12 : u_T := fun k => match k with
  | 0 => ("DitchOpenModel", "thrown", "I", false)
  | 1 => ("DitchOpenModel", "tape", "[I", true)
  | 2 => ("DitchOpenModel", "size", "I", false)
  | 3 => ("DitchOpenModel", "at", "I", false)
  | 4 => ("DitchOpenModel", "wrong", "I", false)
  | 5 => ("DitchOpenModel", "deep", "I", false)
  | 6 => ("DitchOpenModel", "code", "[I", true)
  | 7 => ("DitchOpenModel", "value", "[I", true)
  | 8 => ("DitchOpenModel", "codes", "[I", true)
  | 9 => ("DitchOpenModel", "clauses", "[I", true)
  | 10 => ("DitchOpenModel", "testFrom", "[I", true)
  | 11 => ("DitchOpenModel", "sumFrom", "[I", true)
  | 12 => ("DitchOpenModel", "sumTo", "[I", true)
  | 13 => ("DitchOpenModel", "laws", "I", false)
  | 14 => ("DitchOpenModel", "text", "I", false)
  | 15 => ("DitchOpenModel", "letters", "[I", true)
  | 16 => ("DitchOpenModel", "stack", "[I", true)
  | 17 => ("DitchOpenModel", "reaches", "[I", true)
  | 18 => ("DitchOpenModel", "told", "[I", true)
  | 19 => ("DitchOpenModel", "days", "[I", true)
  | 20 => ("DitchOpenModel", "rains", "[I", true)
  | 21 => ("DitchOpenModel", "ditches", "I", false)
  | 22 => ("DitchOpenModel", "rainMany", "I", false)
  | 23 => ("DitchOpenModel", "tide", "I", false)
  | 24 => ("DitchOpenModel", "silt", "I", false)
  | 25 => ("DitchOpenModel", "summer", "I", false)
  | 26 => ("DitchOpenModel", "now", "[I", true)
  | 27 => ("DitchOpenModel", "aside", "[I", true)
  | 28 => ("DitchOpenModel", "image", "[I", true)
  | 29 => ("DitchOpenModel", "draws", "J", false)
  | 30 => ("DitchOpenModel", "seed", "J", false)
  | 31 => ("DitchOpenModel", "drawsAside", "J", false)
  | 32 => ("DitchOpenModel", "drawsImage", "J", false)
  | 33 => ("DitchOpenModel", "seedAside", "J", false)
  | 34 => ("DitchOpenModel", "seedImage", "J", false)
  | 35 => ("DitchOpenModel", "isDug", "Z", false)
  | 36 => ("DitchOpenModel", "hasImage", "Z", false)
  | 37 => ("DitchOpenModel", "clear", "I", false)
  | 38 => ("DitchOpenModel", "comes", "[I", true)
  | 39 => ("DitchOpenModel", "having", "[I", true)
  | 40 => ("DitchOpenModel", "hadHarm", "[I", true)
  | 41 => ("DitchOpenModel", "hadSpent", "[I", true)
  | 42 => ("DitchOpenModel", "staffs", "[I", true)
  | 43 => ("DitchOpenModel", "sumOff", "I", false)
  | 44 => ("DitchOpenModel", "mostOff", "I", false)
  | 45 => ("DitchOpenModel", "turns", "[I", true)
  | _ => ("DitchOpenModel", "leastMost", "[I", true)
def tyX12 : Nat → FieldType := fun k => match k with
  | 0 => .int
  | 1 => .array .int
  | 2 => .int
  | 3 => .int
  | 4 => .int
  | 5 => .int
  | 6 => .array .int
  | 7 => .array .int
  | 8 => .array .int
  | 9 => .array .int
  | 10 => .array .int
  | 11 => .array .int
  | 12 => .array .int
  | 13 => .int
  | 14 => .int
  | 15 => .array .int
  | 16 => .array .int
  | 17 => .array .int
  | 18 => .array .int
  | 19 => .array .int
  | 20 => .array .int
  | 21 => .int
  | 22 => .int
  | 23 => .int
  | 24 => .int
  | 25 => .int
  | 26 => .array .int
  | 27 => .array .int
  | 28 => .array .int
  | 29 => .long
  | 30 => .long
  | 31 => .long
  | 32 => .long
  | 33 => .long
  | 34 => .long
  | 35 => .boolean
  | 36 => .boolean
  | 37 => .int
  | 38 => .array .int
  | 39 => .array .int
  | 40 => .array .int
  | 41 => .array .int
  | 42 => .array .int
  | 43 => .int
  | 44 => .int
  | 45 => .array .int
  | _ => .array .int
abbrev wsX120 : List Cond := u_ws RX12 TX12 47
theorem nmX12 : ∀ a, a < 47 → ∀ b, b < 47 → a ≠ b → (TX12 a).2.1 ≠ (TX12 b).2.1 := by decide +kernel
theorem tyX12_ok : ∀ k, k < 47 → parseFieldDescriptor (TX12 k).2.2.1 = some (tyX12 k) := by decide +kernel
abbrev cX12_in : ByteArray := prog_14_method_1_code
def yX12_in : MethodName := ⟨RX12, "in", "(III)Z"⟩
abbrev cX12_hasBit : ByteArray := prog_14_method_2_code
def yX12_hasBit : MethodName := ⟨RX12, "hasBit", "(II)Z"⟩
abbrev cX12_init : ByteArray := prog_14_method_3_code
def yX12_init : MethodName := ⟨RX12, "<init>", "()V"⟩
abbrev cX12_byteOf : ByteArray := prog_14_method_5_code
def yX12_byteOf : MethodName := ⟨RX12, "byteOf", "(IIIIII)I"⟩
abbrev cX12_feed : ByteArray := prog_14_method_6_code
def yX12_feed : MethodName := ⟨RX12, "feed", "(IIIII)I"⟩
abbrev cX12_end : ByteArray := prog_14_method_7_code
def yX12_end : MethodName := ⟨RX12, "end", "(I)Z"⟩
abbrev cX12_here : ByteArray := prog_14_method_8_code
def yX12_here : MethodName := ⟨RX12, "here", "()I"⟩
abbrev cX12_look : ByteArray := prog_14_method_9_code
def yX12_look : MethodName := ⟨RX12, "look", "()I"⟩
abbrev cX12_bad : ByteArray := prog_14_method_10_code
def yX12_bad : MethodName := ⟨RX12, "bad", "()V"⟩
abbrev cX12_isDigit : ByteArray := prog_14_method_11_code
def yX12_isDigit : MethodName := ⟨RX12, "isDigit", "(I)Z"⟩
abbrev cX12_put : ByteArray := prog_14_method_12_code
def yX12_put : MethodName := ⟨RX12, "put", "(II)V"⟩
abbrev cX12_letterOf : ByteArray := prog_14_method_13_code
def yX12_letterOf : MethodName := ⟨RX12, "letterOf", "(I)I"⟩
abbrev cX12_opens : ByteArray := prog_14_method_14_code
def yX12_opens : MethodName := ⟨RX12, "opens", "()V"⟩
abbrev cX12_closes : ByteArray := prog_14_method_15_code
def yX12_closes : MethodName := ⟨RX12, "closes", "(I)V"⟩
abbrev cX12_plainNumber : ByteArray := prog_14_method_16_code
def yX12_plainNumber : MethodName := ⟨RX12, "plainNumber", "()I"⟩
abbrev cX12_atom : ByteArray := prog_14_method_17_code
def yX12_atom : MethodName := ⟨RX12, "atom", "()V"⟩
abbrev cX12_term : ByteArray := prog_14_method_18_code
def yX12_term : MethodName := ⟨RX12, "term", "()V"⟩
abbrev cX12_sum : ByteArray := prog_14_method_19_code
def yX12_sum : MethodName := ⟨RX12, "sum", "()V"⟩
abbrev cX12_isSign : ByteArray := prog_14_method_20_code
def yX12_isSign : MethodName := ⟨RX12, "isSign", "(I)Z"⟩
abbrev cX12_compare : ByteArray := prog_14_method_21_code
def yX12_compare : MethodName := ⟨RX12, "compare", "()V"⟩
abbrev cX12_unit : ByteArray := prog_14_method_22_code
def yX12_unit : MethodName := ⟨RX12, "unit", "()V"⟩
abbrev cX12_goOnAnd : ByteArray := prog_14_method_23_code
def yX12_goOnAnd : MethodName := ⟨RX12, "goOnAnd", "()V"⟩
abbrev cX12_goOnOr : ByteArray := prog_14_method_24_code
def yX12_goOnOr : MethodName := ⟨RX12, "goOnOr", "()V"⟩
abbrev cX12_condition : ByteArray := prog_14_method_25_code
def yX12_condition : MethodName := ⟨RX12, "condition", "()V"⟩
abbrev cX12_clause : ByteArray := prog_14_method_26_code
def yX12_clause : MethodName := ⟨RX12, "clause", "()V"⟩
abbrev cX12_open : ByteArray := prog_14_method_27_code
def yX12_open : MethodName := ⟨RX12, "open", "(I)V"⟩
abbrev cX12_atEnd : ByteArray := prog_14_method_28_code
def yX12_atEnd : MethodName := ⟨RX12, "atEnd", "()I"⟩
abbrev cX12_readLaw : ByteArray := prog_14_method_29_code
def yX12_readLaw : MethodName := ⟨RX12, "readLaw", "(I)I"⟩
abbrev cX12_bounded : ByteArray := prog_14_method_30_code
def yX12_bounded : MethodName := ⟨RX12, "bounded", "(J)I"⟩
abbrev cX12_worked : ByteArray := prog_14_method_31_code
def yX12_worked : MethodName := ⟨RX12, "worked", "(IJJ)I"⟩
abbrev cX12_workOut : ByteArray := prog_14_method_32_code
def yX12_workOut : MethodName := ⟨RX12, "workOut", "(III)I"⟩
abbrev cX12_worthOf : ByteArray := prog_14_method_33_code
def yX12_worthOf : MethodName := ⟨RX12, "worthOf", "(I)I"⟩
abbrev cX12_number : ByteArray := prog_14_method_34_code
def yX12_number : MethodName := ⟨RX12, "number", "(II)I"⟩
abbrev cX12_itemOf : ByteArray := prog_14_method_35_code
def yX12_itemOf : MethodName := ⟨RX12, "itemOf", "(I)I"⟩
abbrev cX12_reachOf : ByteArray := prog_14_method_36_code
def yX12_reachOf : MethodName := ⟨RX12, "reachOf", "(I)V"⟩
abbrev cX12_readDitch : ByteArray := prog_14_method_37_code
def yX12_readDitch : MethodName := ⟨RX12, "readDitch", "(I)I"⟩
abbrev cX12_readRain : ByteArray := prog_14_method_38_code
def yX12_readRain : MethodName := ⟨RX12, "readRain", "(I)I"⟩
abbrev cX12_fault : ByteArray := prog_14_method_39_code
def yX12_fault : MethodName := ⟨RX12, "fault", "(I)I"⟩
abbrev cX12_text : ByteArray := prog_14_method_40_code
def yX12_text : MethodName := ⟨RX12, "text", "(I)I"⟩
abbrev cX12_isDitch : ByteArray := prog_14_method_41_code
def yX12_isDitch : MethodName := ⟨RX12, "isDitch", "(I)Z"⟩
abbrev cX12_isLaw : ByteArray := prog_14_method_42_code
def yX12_isLaw : MethodName := ⟨RX12, "isLaw", "(I)Z"⟩
abbrev cX12_isRain : ByteArray := prog_14_method_43_code
def yX12_isRain : MethodName := ⟨RX12, "isRain", "(I)Z"⟩
abbrev cX12_reach : ByteArray := prog_14_method_44_code
def yX12_reach : MethodName := ⟨RX12, "reach", "(III)I"⟩
abbrev cX12_rain : ByteArray := prog_14_method_45_code
def yX12_rain : MethodName := ⟨RX12, "rain", "(II)I"⟩
abbrev cX12_set : ByteArray := prog_14_method_46_code
def yX12_set : MethodName := ⟨RX12, "set", "(II)Z"⟩
abbrev cX12_its : ByteArray := prog_14_method_47_code
def yX12_its : MethodName := ⟨RX12, "its", "(II)I"⟩
abbrev cX12_begin : ByteArray := prog_14_method_48_code
def yX12_begin : MethodName := ⟨RX12, "begin", "(IIJ)V"⟩
abbrev cX12_layOut : ByteArray := prog_14_method_49_code
def yX12_layOut : MethodName := ⟨RX12, "layOut", "(I)V"⟩
abbrev cX12_dig : ByteArray := prog_14_method_50_code
def yX12_dig : MethodName := ⟨RX12, "dig", "(IIIJ)Z"⟩
abbrev cX12_levelOf : ByteArray := prog_14_method_51_code
def yX12_levelOf : MethodName := ⟨RX12, "levelOf", "(I)I"⟩
abbrev cX12_nextLevel : ByteArray := prog_14_method_52_code
def yX12_nextLevel : MethodName := ⟨RX12, "nextLevel", "(I)I"⟩
abbrev cX12_asked : ByteArray := prog_14_method_53_code
def yX12_asked : MethodName := ⟨RX12, "asked", "(III)I"⟩
abbrev cX12_round : ByteArray := prog_14_method_54_code
def yX12_round : MethodName := ⟨RX12, "round", "(I)V"⟩
abbrev cX12_settle : ByteArray := prog_14_method_55_code
def yX12_settle : MethodName := ⟨RX12, "settle", "(I)V"⟩
abbrev cX12_draw : ByteArray := prog_14_method_56_code
def yX12_draw : MethodName := ⟨RX12, "draw", "()I"⟩
abbrev cX12_dayOf : ByteArray := prog_14_method_57_code
def yX12_dayOf : MethodName := ⟨RX12, "dayOf", "(I)V"⟩
abbrev cX12_runOf : ByteArray := prog_14_method_58_code
def yX12_runOf : MethodName := ⟨RX12, "runOf", "(I)V"⟩
abbrev cX12_day : ByteArray := prog_14_method_59_code
def yX12_day : MethodName := ⟨RX12, "day", "(I)I"⟩
abbrev cX12_run : ByteArray := prog_14_method_60_code
def yX12_run : MethodName := ⟨RX12, "run", "(I)I"⟩
abbrev cX12_at : ByteArray := prog_14_method_61_code
def yX12_at : MethodName := ⟨RX12, "at", "(II)I"⟩
abbrev cX12_sumOf : ByteArray := prog_14_method_62_code
def yX12_sumOf : MethodName := ⟨RX12, "sumOf", "(II)I"⟩
abbrev cX12_all : ByteArray := prog_14_method_63_code
def yX12_all : MethodName := ⟨RX12, "all", "(I)I"⟩
abbrev cX12_isOwner : ByteArray := prog_14_method_64_code
def yX12_isOwner : MethodName := ⟨RX12, "isOwner", "(I)Z"⟩
abbrev cX12_owner : ByteArray := prog_14_method_65_code
def yX12_owner : MethodName := ⟨RX12, "owner", "(II)I"⟩
abbrev cX12_cleanOf : ByteArray := prog_14_method_66_code
def yX12_cleanOf : MethodName := ⟨RX12, "cleanOf", "(I)I"⟩
abbrev cX12_clean : ByteArray := prog_14_method_67_code
def yX12_clean : MethodName := ⟨RX12, "clean", "(I)I"⟩
abbrev cX12_shut : ByteArray := prog_14_method_68_code
def yX12_shut : MethodName := ⟨RX12, "shut", "(IZ)Z"⟩
abbrev cX12_putAside : ByteArray := prog_14_method_69_code
def yX12_putAside : MethodName := ⟨RX12, "putAside", "()V"⟩
abbrev cX12_takeBack : ByteArray := prog_14_method_70_code
def yX12_takeBack : MethodName := ⟨RX12, "takeBack", "()V"⟩
abbrev cX12_cleanAll : ByteArray := prog_14_method_71_code
def yX12_cleanAll : MethodName := ⟨RX12, "cleanAll", "(I)V"⟩
abbrev cX12_harmOf : ByteArray := prog_14_method_72_code
def yX12_harmOf : MethodName := ⟨RX12, "harmOf", "(I)I"⟩
abbrev cX12_triedOf : ByteArray := prog_14_method_73_code
def yX12_triedOf : MethodName := ⟨RX12, "triedOf", "(III)I"⟩
abbrev cX12_tried : ByteArray := prog_14_method_74_code
def yX12_tried : MethodName := ⟨RX12, "tried", "(III)I"⟩
abbrev cX12_costs : ByteArray := prog_14_method_75_code
def yX12_costs : MethodName := ⟨RX12, "costs", "(III)I"⟩
abbrev cX12_first : ByteArray := prog_14_method_76_code
def yX12_first : MethodName := ⟨RX12, "first", "(I)I"⟩
abbrev cX12_when : ByteArray := prog_14_method_77_code
def yX12_when : MethodName := ⟨RX12, "when", "(II)I"⟩
abbrev cX12_owners : ByteArray := prog_14_method_78_code
def yX12_owners : MethodName := ⟨RX12, "owners", "()I"⟩
abbrev cX12_weigh : ByteArray := prog_14_method_79_code
def yX12_weigh : MethodName := ⟨RX12, "weigh", "(IIIII)V"⟩
abbrev cX12_isGame : ByteArray := prog_14_method_80_code
def yX12_isGame : MethodName := ⟨RX12, "isGame", "(IIII)Z"⟩
abbrev cX12_has : ByteArray := prog_14_method_81_code
def yX12_has : MethodName := ⟨RX12, "has", "(IIIIII)I"⟩
abbrev cX12_weighAll : ByteArray := prog_14_method_82_code
def yX12_weighAll : MethodName := ⟨RX12, "weighAll", "(IIII)V"⟩
abbrev cX12_isAtRest : ByteArray := prog_14_method_83_code
def yX12_isAtRest : MethodName := ⟨RX12, "isAtRest", "(I)Z"⟩
abbrev cX12_rests : ByteArray := prog_14_method_84_code
def yX12_rests : MethodName := ⟨RX12, "rests", "(IIIII)I"⟩
abbrev cX12_best : ByteArray := prog_14_method_85_code
def yX12_best : MethodName := ⟨RX12, "best", "(IIII)I"⟩
abbrev cX12_staff : ByteArray := prog_14_method_86_code
def yX12_staff : MethodName := ⟨RX12, "staff", "(II)Z"⟩
abbrev cX12_measure : ByteArray := prog_14_method_87_code
def yX12_measure : MethodName := ⟨RX12, "measure", "(II)V"⟩
abbrev cX12_where : ByteArray := prog_14_method_88_code
def yX12_where : MethodName := ⟨RX12, "where", "(IIZ)I"⟩
abbrev cX12_off : ByteArray := prog_14_method_89_code
def yX12_off : MethodName := ⟨RX12, "off", "(II)I"⟩
abbrev cX12_falls : ByteArray := prog_14_method_90_code
def yX12_falls : MethodName := ⟨RX12, "falls", "(IIIIII)I"⟩
abbrev cX12_again : ByteArray := prog_14_method_91_code
def yX12_again : MethodName := ⟨RX12, "again", "(IIIII)V"⟩
abbrev cX12_isAsked : ByteArray := prog_14_method_92_code
def yX12_isAsked : MethodName := ⟨RX12, "isAsked", "(II)Z"⟩
abbrev cX12_sands : ByteArray := prog_14_method_93_code
def yX12_sands : MethodName := ⟨RX12, "sands", "(III)I"⟩
abbrev cX12_sinks : ByteArray := prog_14_method_94_code
def yX12_sinks : MethodName := ⟨RX12, "sinks", "(IIII)I"⟩
abbrev cX12_raised : ByteArray := prog_14_method_95_code
def yX12_raised : MethodName := ⟨RX12, "raised", "(III)I"⟩
abbrev cX12_costOf : ByteArray := prog_14_method_96_code
def yX12_costOf : MethodName := ⟨RX12, "costOf", "(IIII)I"⟩
abbrev cX12_every : ByteArray := prog_14_method_97_code
def yX12_every : MethodName := ⟨RX12, "every", "(IIII)I"⟩
abbrev cX12_byTurns : ByteArray := prog_14_method_98_code
def yX12_byTurns : MethodName := ⟨RX12, "byTurns", "(I)I"⟩
abbrev cX12_order : ByteArray := prog_14_method_99_code
def yX12_order : MethodName := ⟨RX12, "order", "(IZ)I"⟩
abbrev cX12_layTurns : ByteArray := prog_14_method_100_code
def yX12_layTurns : MethodName := ⟨RX12, "layTurns", "(II)Z"⟩
abbrev cX12_turn : ByteArray := prog_14_method_101_code
def yX12_turn : MethodName := ⟨RX12, "turn", "(I)I"⟩
abbrev cX12_mudBehind : ByteArray := prog_14_method_102_code
def yX12_mudBehind : MethodName := ⟨RX12, "mudBehind", "(III)I"⟩
abbrev cX12_whose : ByteArray := prog_14_method_103_code
def yX12_whose : MethodName := ⟨RX12, "whose", "(III)I"⟩
abbrev cX12_workOf : ByteArray := prog_14_method_104_code
def yX12_workOf : MethodName := ⟨RX12, "workOf", "(I)I"⟩
abbrev cX12_workOfRow : ByteArray := prog_14_method_105_code
def yX12_workOfRow : MethodName := ⟨RX12, "workOfRow", "(II)I"⟩
abbrev cX12_work : ByteArray := prog_14_method_106_code
def yX12_work : MethodName := ⟨RX12, "work", "(I)I"⟩
abbrev cX12_share : ByteArray := prog_14_method_107_code
def yX12_share : MethodName := ⟨RX12, "share", "()V"⟩
abbrev cX12_notch : ByteArray := prog_14_method_108_code
def yX12_notch : MethodName := ⟨RX12, "notch", "(II)I"⟩
abbrev cX12_choose : ByteArray := prog_14_method_109_code
def yX12_choose : MethodName := ⟨RX12, "choose", "(II)J"⟩
abbrev cX12_hit : ByteArray := prog_14_method_110_code
def yX12_hit : MethodName := ⟨RX12, "hit", "(II)I"⟩
abbrev cX12_longest : ByteArray := prog_14_method_111_code
def yX12_longest : MethodName := ⟨RX12, "longest", "(I)I"⟩
abbrev cX12_harmBy : ByteArray := prog_14_method_112_code
def yX12_harmBy : MethodName := ⟨RX12, "harmBy", "(IIII)I"⟩
abbrev cX12_banks : ByteArray := prog_14_method_113_code
def yX12_banks : MethodName := ⟨RX12, "banks", "(IIII)I"⟩
abbrev cX12_rise : ByteArray := prog_14_method_114_code
def yX12_rise : MethodName := ⟨RX12, "rise", "(II)I"⟩
abbrev cX12_image : ByteArray := prog_14_method_115_code
def yX12_image : MethodName := ⟨RX12, "image", "()I"⟩
abbrev cX12_back : ByteArray := prog_14_method_116_code
def yX12_back : MethodName := ⟨RX12, "back", "()I"⟩
abbrev cX12_count : ByteArray := prog_14_method_117_code
def yX12_count : MethodName := ⟨RX12, "count", "(I)I"⟩
def RL : String := "DitchOpenLaw"
abbrev cL_reach : ByteArray := method_3_code
def yL_reach : MethodName := ⟨RL, "reach", "(LDitchOpen;III[J)I"⟩
abbrev cL_law : ByteArray := code
def yL_law : MethodName := ⟨RL, "law", "([I)Z"⟩
abbrev vwCl : List vw_C := [(RX0, TX0, 2), (RX1, TX1, 14), (RX2, TX2, 6), (RX3, TX3, 4), (RX4, TX4, 3), (RX5, TX5, 2), (RX6, TX6, 15), (RX7, TX7, 3), (RX8, TX8, 3), (RX9, TX9, 3), (RX10, TX10, 3), (RX11, TX11, 12), (RX12, TX12, 47)]

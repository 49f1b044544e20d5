-- ===== PART A: goes FIRST, ahead of the names: the tables' words, and 'selects' of the private methods out of them =====
/-- a private method of a class that the tables say can be made, by its rows of tables_1 -/
def lw_okq (q : MethodName × Nat) : Prop := (q.1.cls ≠ "java/lang/invoke/MethodHandle" ∧ q.1.cls ≠ "java/lang/invoke/VarHandle") ∧ Cond.instantiable q.1.cls q.2 ∈ tables_1 ∧ Cond.privateMethod q.1 ∈ tables_1 ∧ Cond.instanceMethod q.1 ∈ tables_1
theorem lw_p0 : lw_okq (⟨"MatchLattice$History", "start", "()I"⟩, 4) := ⟨⟨by decide +kernel, by decide +kernel⟩, List.mem_of_getElem? (i := 64) (by decide +kernel), List.mem_of_getElem? (i := 230) (by decide +kernel), List.mem_of_getElem? (i := 231) (by decide +kernel)⟩
theorem lw_p1 : lw_okq (⟨"MatchLattice$Tape", "readLine", "(ILMatchLattice$Lists;)I"⟩, 2) := ⟨⟨by decide +kernel, by decide +kernel⟩, List.mem_of_getElem? (i := 22) (by decide +kernel), List.mem_of_getElem? (i := 318) (by decide +kernel), List.mem_of_getElem? (i := 319) (by decide +kernel)⟩
theorem lw_p2 : lw_okq (⟨"MatchLattice$Tape", "sideAt", "(I)I"⟩, 2) := ⟨⟨by decide +kernel, by decide +kernel⟩, List.mem_of_getElem? (i := 22) (by decide +kernel), List.mem_of_getElem? (i := 322) (by decide +kernel), List.mem_of_getElem? (i := 323) (by decide +kernel)⟩
theorem lw_p3 : lw_okq (⟨"MatchLattice$Tape", "byteAt", "(I)I"⟩, 2) := ⟨⟨by decide +kernel, by decide +kernel⟩, List.mem_of_getElem? (i := 22) (by decide +kernel), List.mem_of_getElem? (i := 326) (by decide +kernel), List.mem_of_getElem? (i := 327) (by decide +kernel)⟩
theorem lw_p4 : lw_okq (⟨"MatchLattice$Tape", "figureAt", "(II)I"⟩, 2) := ⟨⟨by decide +kernel, by decide +kernel⟩, List.mem_of_getElem? (i := 22) (by decide +kernel), List.mem_of_getElem? (i := 335) (by decide +kernel), List.mem_of_getElem? (i := 336) (by decide +kernel)⟩
theorem lw_p5 : lw_okq (⟨"MatchLattice$Tape", "readFigures", "(ILMatchLattice$Lists;II)I"⟩, 2) := ⟨⟨by decide +kernel, by decide +kernel⟩, List.mem_of_getElem? (i := 22) (by decide +kernel), List.mem_of_getElem? (i := 339) (by decide +kernel), List.mem_of_getElem? (i := 340) (by decide +kernel)⟩
theorem lw_p6 : lw_okq (⟨"MatchLattice", "isOne", "(I)Z"⟩, 11) := ⟨⟨by decide +kernel, by decide +kernel⟩, List.mem_of_getElem? (i := 14) (by decide +kernel), List.mem_of_getElem? (i := 359) (by decide +kernel), List.mem_of_getElem? (i := 360) (by decide +kernel)⟩
theorem lw_p7 : lw_okq (⟨"MatchLattice", "canStir", "(III)Z"⟩, 11) := ⟨⟨by decide +kernel, by decide +kernel⟩, List.mem_of_getElem? (i := 14) (by decide +kernel), List.mem_of_getElem? (i := 371) (by decide +kernel), List.mem_of_getElem? (i := 372) (by decide +kernel)⟩
theorem lw_p8 : lw_okq (⟨"MatchLattice", "settle", "()V"⟩, 11) := ⟨⟨by decide +kernel, by decide +kernel⟩, List.mem_of_getElem? (i := 14) (by decide +kernel), List.mem_of_getElem? (i := 384) (by decide +kernel), List.mem_of_getElem? (i := 385) (by decide +kernel)⟩
theorem lw_p9 : lw_okq (⟨"MatchLattice$Asking", "leastAlone", "(II)I"⟩, 4) := ⟨⟨by decide +kernel, by decide +kernel⟩, List.mem_of_getElem? (i := 85) (by decide +kernel), List.mem_of_getElem? (i := 395) (by decide +kernel), List.mem_of_getElem? (i := 396) (by decide +kernel)⟩
theorem lw_p10 : lw_okq (⟨"MatchLattice$Asking", "ask", "(LMatchLattice$Lists;II)V"⟩, 4) := ⟨⟨by decide +kernel, by decide +kernel⟩, List.mem_of_getElem? (i := 85) (by decide +kernel), List.mem_of_getElem? (i := 407) (by decide +kernel), List.mem_of_getElem? (i := 408) (by decide +kernel)⟩
theorem lw_p11 : lw_okq (⟨"MatchLattice$Turns", "nextOf", "(ILMatchLattice$Lists;)I"⟩, 11) := ⟨⟨by decide +kernel, by decide +kernel⟩, List.mem_of_getElem? (i := 122) (by decide +kernel), List.mem_of_getElem? (i := 450) (by decide +kernel), List.mem_of_getElem? (i := 451) (by decide +kernel)⟩
theorem lw_p12 : lw_okq (⟨"MatchLattice$Turns", "firstLeader", "(I)I"⟩, 11) := ⟨⟨by decide +kernel, by decide +kernel⟩, List.mem_of_getElem? (i := 122) (by decide +kernel), List.mem_of_getElem? (i := 459) (by decide +kernel), List.mem_of_getElem? (i := 460) (by decide +kernel)⟩
theorem lw_p13 : lw_okq (⟨"MatchLattice$Turns", "comesBack", "(II)Z"⟩, 11) := ⟨⟨by decide +kernel, by decide +kernel⟩, List.mem_of_getElem? (i := 122) (by decide +kernel), List.mem_of_getElem? (i := 463) (by decide +kernel), List.mem_of_getElem? (i := 464) (by decide +kernel)⟩
theorem lw_p14 : lw_okq (⟨"MatchLattice$Turns", "keepPairs", "(II)V"⟩, 11) := ⟨⟨by decide +kernel, by decide +kernel⟩, List.mem_of_getElem? (i := 122) (by decide +kernel), List.mem_of_getElem? (i := 468) (by decide +kernel), List.mem_of_getElem? (i := 469) (by decide +kernel)⟩
theorem lw_p15 : lw_okq (⟨"MatchLattice$Turns", "keepNeeds", "(ILMatchLattice$Lists;)V"⟩, 11) := ⟨⟨by decide +kernel, by decide +kernel⟩, List.mem_of_getElem? (i := 122) (by decide +kernel), List.mem_of_getElem? (i := 472) (by decide +kernel), List.mem_of_getElem? (i := 473) (by decide +kernel)⟩
def lw_privs_1 : List (MethodName × Nat) := [(⟨"MatchLattice$History", "start", "()I"⟩, 4), (⟨"MatchLattice$Tape", "readLine", "(ILMatchLattice$Lists;)I"⟩, 2), (⟨"MatchLattice$Tape", "sideAt", "(I)I"⟩, 2), (⟨"MatchLattice$Tape", "byteAt", "(I)I"⟩, 2), (⟨"MatchLattice$Tape", "figureAt", "(II)I"⟩, 2), (⟨"MatchLattice$Tape", "readFigures", "(ILMatchLattice$Lists;II)I"⟩, 2), (⟨"MatchLattice", "isOne", "(I)Z"⟩, 11), (⟨"MatchLattice", "canStir", "(III)Z"⟩, 11), (⟨"MatchLattice", "settle", "()V"⟩, 11), (⟨"MatchLattice$Asking", "leastAlone", "(II)I"⟩, 4), (⟨"MatchLattice$Asking", "ask", "(LMatchLattice$Lists;II)V"⟩, 4), (⟨"MatchLattice$Turns", "nextOf", "(ILMatchLattice$Lists;)I"⟩, 11), (⟨"MatchLattice$Turns", "firstLeader", "(I)I"⟩, 11), (⟨"MatchLattice$Turns", "comesBack", "(II)Z"⟩, 11), (⟨"MatchLattice$Turns", "keepPairs", "(II)V"⟩, 11), (⟨"MatchLattice$Turns", "keepNeeds", "(ILMatchLattice$Lists;)V"⟩, 11)]
theorem lw_r1 : ∀ q ∈ lw_privs_1, lw_okq q := List.forall_mem_cons.mpr ⟨lw_p0, List.forall_mem_cons.mpr ⟨lw_p1, List.forall_mem_cons.mpr ⟨lw_p2, List.forall_mem_cons.mpr ⟨lw_p3, List.forall_mem_cons.mpr ⟨lw_p4, List.forall_mem_cons.mpr ⟨lw_p5, List.forall_mem_cons.mpr ⟨lw_p6, List.forall_mem_cons.mpr ⟨lw_p7, List.forall_mem_cons.mpr ⟨lw_p8, List.forall_mem_cons.mpr ⟨lw_p9, List.forall_mem_cons.mpr ⟨lw_p10, List.forall_mem_cons.mpr ⟨lw_p11, List.forall_mem_cons.mpr ⟨lw_p12, List.forall_mem_cons.mpr ⟨lw_p13, List.forall_mem_cons.mpr ⟨lw_p14, List.forall_mem_cons.mpr ⟨lw_p15, fun _ h => absurd h List.not_mem_nil⟩⟩⟩⟩⟩⟩⟩⟩⟩⟩⟩⟩⟩⟩⟩⟩
theorem lw_p16 : lw_okq (⟨"MatchLattice$Turns", "withNeeds", "(I)I"⟩, 11) := ⟨⟨by decide +kernel, by decide +kernel⟩, List.mem_of_getElem? (i := 122) (by decide +kernel), List.mem_of_getElem? (i := 484) (by decide +kernel), List.mem_of_getElem? (i := 485) (by decide +kernel)⟩
theorem lw_p17 : lw_okq (⟨"MatchLattice$Turns", "following", "(II)I"⟩, 11) := ⟨⟨by decide +kernel, by decide +kernel⟩, List.mem_of_getElem? (i := 122) (by decide +kernel), List.mem_of_getElem? (i := 492) (by decide +kernel), List.mem_of_getElem? (i := 493) (by decide +kernel)⟩
theorem lw_p18 : lw_okq (⟨"MatchLattice$Turns", "depthBehind", "(II)I"⟩, 11) := ⟨⟨by decide +kernel, by decide +kernel⟩, List.mem_of_getElem? (i := 122) (by decide +kernel), List.mem_of_getElem? (i := 500) (by decide +kernel), List.mem_of_getElem? (i := 501) (by decide +kernel)⟩
theorem lw_p19 : lw_okq (⟨"MatchLattice$Turns", "weigh", "(ILMatchLattice$Lists;)I"⟩, 11) := ⟨⟨by decide +kernel, by decide +kernel⟩, List.mem_of_getElem? (i := 122) (by decide +kernel), List.mem_of_getElem? (i := 511) (by decide +kernel), List.mem_of_getElem? (i := 512) (by decide +kernel)⟩
theorem lw_p20 : lw_okq (⟨"MatchLattice$Turns", "markPassed", "(ILMatchLattice$Lists;)V"⟩, 11) := ⟨⟨by decide +kernel, by decide +kernel⟩, List.mem_of_getElem? (i := 122) (by decide +kernel), List.mem_of_getElem? (i := 515) (by decide +kernel), List.mem_of_getElem? (i := 516) (by decide +kernel)⟩
theorem lw_p21 : lw_okq (⟨"MatchLattice$Lists", "unused", "(II)I"⟩, 3) := ⟨⟨by decide +kernel, by decide +kernel⟩, List.mem_of_getElem? (i := 46) (by decide +kernel), List.mem_of_getElem? (i := 719) (by decide +kernel), List.mem_of_getElem? (i := 720) (by decide +kernel)⟩
theorem lw_p22 : lw_okq (⟨"MatchLattice", "mend", "()I"⟩, 11) := ⟨⟨by decide +kernel, by decide +kernel⟩, List.mem_of_getElem? (i := 14) (by decide +kernel), List.mem_of_getElem? (i := 769) (by decide +kernel), List.mem_of_getElem? (i := 770) (by decide +kernel)⟩
theorem lw_p23 : lw_okq (⟨"MatchLattice", "leftsAlone", "()I"⟩, 11) := ⟨⟨by decide +kernel, by decide +kernel⟩, List.mem_of_getElem? (i := 14) (by decide +kernel), List.mem_of_getElem? (i := 808) (by decide +kernel), List.mem_of_getElem? (i := 809) (by decide +kernel)⟩
theorem lw_p24 : lw_okq (⟨"MatchLatticeModel", "begins", "()V"⟩, 38) := ⟨⟨by decide +kernel, by decide +kernel⟩, List.mem_of_getElem? (i := 812) (by decide +kernel), List.mem_of_getElem? (i := 818) (by decide +kernel), List.mem_of_getElem? (i := 819) (by decide +kernel)⟩
theorem lw_p25 : lw_okq (⟨"MatchLatticeModel", "places", "()V"⟩, 38) := ⟨⟨by decide +kernel, by decide +kernel⟩, List.mem_of_getElem? (i := 812) (by decide +kernel), List.mem_of_getElem? (i := 822) (by decide +kernel), List.mem_of_getElem? (i := 823) (by decide +kernel)⟩
theorem lw_p26 : lw_okq (⟨"MatchLatticeModel", "line", "()V"⟩, 38) := ⟨⟨by decide +kernel, by decide +kernel⟩, List.mem_of_getElem? (i := 812) (by decide +kernel), List.mem_of_getElem? (i := 959) (by decide +kernel), List.mem_of_getElem? (i := 960) (by decide +kernel)⟩
theorem lw_p27 : lw_okq (⟨"MatchLatticeModel", "sees", "(II)Z"⟩, 38) := ⟨⟨by decide +kernel, by decide +kernel⟩, List.mem_of_getElem? (i := 812) (by decide +kernel), List.mem_of_getElem? (i := 963) (by decide +kernel), List.mem_of_getElem? (i := 964) (by decide +kernel)⟩
theorem lw_p28 : lw_okq (⟨"MatchLatticeModel", "takes", "(I)Z"⟩, 38) := ⟨⟨by decide +kernel, by decide +kernel⟩, List.mem_of_getElem? (i := 812) (by decide +kernel), List.mem_of_getElem? (i := 967) (by decide +kernel), List.mem_of_getElem? (i := 968) (by decide +kernel)⟩
theorem lw_p29 : lw_okq (⟨"MatchLatticeModel", "figure", "(I)I"⟩, 38) := ⟨⟨by decide +kernel, by decide +kernel⟩, List.mem_of_getElem? (i := 812) (by decide +kernel), List.mem_of_getElem? (i := 971) (by decide +kernel), List.mem_of_getElem? (i := 972) (by decide +kernel)⟩
theorem lw_p30 : lw_okq (⟨"MatchLatticeModel", "changes", "()V"⟩, 38) := ⟨⟨by decide +kernel, by decide +kernel⟩, List.mem_of_getElem? (i := 812) (by decide +kernel), List.mem_of_getElem? (i := 981) (by decide +kernel), List.mem_of_getElem? (i := 982) (by decide +kernel)⟩
theorem lw_p31 : lw_okq (⟨"MatchLatticeModel", "isOne", "(I)Z"⟩, 38) := ⟨⟨by decide +kernel, by decide +kernel⟩, List.mem_of_getElem? (i := 812) (by decide +kernel), List.mem_of_getElem? (i := 989) (by decide +kernel), List.mem_of_getElem? (i := 990) (by decide +kernel)⟩
def lw_privs_2 : List (MethodName × Nat) := [(⟨"MatchLattice$Turns", "withNeeds", "(I)I"⟩, 11), (⟨"MatchLattice$Turns", "following", "(II)I"⟩, 11), (⟨"MatchLattice$Turns", "depthBehind", "(II)I"⟩, 11), (⟨"MatchLattice$Turns", "weigh", "(ILMatchLattice$Lists;)I"⟩, 11), (⟨"MatchLattice$Turns", "markPassed", "(ILMatchLattice$Lists;)V"⟩, 11), (⟨"MatchLattice$Lists", "unused", "(II)I"⟩, 3), (⟨"MatchLattice", "mend", "()I"⟩, 11), (⟨"MatchLattice", "leftsAlone", "()I"⟩, 11), (⟨"MatchLatticeModel", "begins", "()V"⟩, 38), (⟨"MatchLatticeModel", "places", "()V"⟩, 38), (⟨"MatchLatticeModel", "line", "()V"⟩, 38), (⟨"MatchLatticeModel", "sees", "(II)Z"⟩, 38), (⟨"MatchLatticeModel", "takes", "(I)Z"⟩, 38), (⟨"MatchLatticeModel", "figure", "(I)I"⟩, 38), (⟨"MatchLatticeModel", "changes", "()V"⟩, 38), (⟨"MatchLatticeModel", "isOne", "(I)Z"⟩, 38)]
theorem lw_r2 : ∀ q ∈ lw_privs_2, lw_okq q := List.forall_mem_cons.mpr ⟨lw_p16, List.forall_mem_cons.mpr ⟨lw_p17, List.forall_mem_cons.mpr ⟨lw_p18, List.forall_mem_cons.mpr ⟨lw_p19, List.forall_mem_cons.mpr ⟨lw_p20, List.forall_mem_cons.mpr ⟨lw_p21, List.forall_mem_cons.mpr ⟨lw_p22, List.forall_mem_cons.mpr ⟨lw_p23, List.forall_mem_cons.mpr ⟨lw_p24, List.forall_mem_cons.mpr ⟨lw_p25, List.forall_mem_cons.mpr ⟨lw_p26, List.forall_mem_cons.mpr ⟨lw_p27, List.forall_mem_cons.mpr ⟨lw_p28, List.forall_mem_cons.mpr ⟨lw_p29, List.forall_mem_cons.mpr ⟨lw_p30, List.forall_mem_cons.mpr ⟨lw_p31, fun _ h => absurd h List.not_mem_nil⟩⟩⟩⟩⟩⟩⟩⟩⟩⟩⟩⟩⟩⟩⟩⟩
theorem lw_p32 : lw_okq (⟨"MatchLatticeModel", "mayStir", "(III)Z"⟩, 38) := ⟨⟨by decide +kernel, by decide +kernel⟩, List.mem_of_getElem? (i := 812) (by decide +kernel), List.mem_of_getElem? (i := 997) (by decide +kernel), List.mem_of_getElem? (i := 998) (by decide +kernel)⟩
theorem lw_p33 : lw_okq (⟨"MatchLatticeModel", "stirs", "([IIII)V"⟩, 38) := ⟨⟨by decide +kernel, by decide +kernel⟩, List.mem_of_getElem? (i := 812) (by decide +kernel), List.mem_of_getElem? (i := 1001) (by decide +kernel), List.mem_of_getElem? (i := 1002) (by decide +kernel)⟩
theorem lw_p34 : lw_okq (⟨"MatchLatticeModel", "knows", "()V"⟩, 38) := ⟨⟨by decide +kernel, by decide +kernel⟩, List.mem_of_getElem? (i := 812) (by decide +kernel), List.mem_of_getElem? (i := 1009) (by decide +kernel), List.mem_of_getElem? (i := 1010) (by decide +kernel)⟩
theorem lw_p35 : lw_okq (⟨"MatchLatticeModel", "bests", "(I[I)V"⟩, 38) := ⟨⟨by decide +kernel, by decide +kernel⟩, List.mem_of_getElem? (i := 812) (by decide +kernel), List.mem_of_getElem? (i := 1013) (by decide +kernel), List.mem_of_getElem? (i := 1014) (by decide +kernel)⟩
theorem lw_p36 : lw_okq (⟨"MatchLatticeModel", "asks", "(I)V"⟩, 38) := ⟨⟨by decide +kernel, by decide +kernel⟩, List.mem_of_getElem? (i := 812) (by decide +kernel), List.mem_of_getElem? (i := 1017) (by decide +kernel), List.mem_of_getElem? (i := 1018) (by decide +kernel)⟩
theorem lw_p37 : lw_okq (⟨"MatchLatticeModel", "rather", "(IIII)Z"⟩, 38) := ⟨⟨by decide +kernel, by decide +kernel⟩, List.mem_of_getElem? (i := 812) (by decide +kernel), List.mem_of_getElem? (i := 1021) (by decide +kernel), List.mem_of_getElem? (i := 1022) (by decide +kernel)⟩
theorem lw_p38 : lw_okq (⟨"MatchLatticeModel", "placeOf", "(III)I"⟩, 38) := ⟨⟨by decide +kernel, by decide +kernel⟩, List.mem_of_getElem? (i := 812) (by decide +kernel), List.mem_of_getElem? (i := 1025) (by decide +kernel), List.mem_of_getElem? (i := 1026) (by decide +kernel)⟩
theorem lw_p39 : lw_okq (⟨"MatchLatticeModel", "firstAlone", "()I"⟩, 38) := ⟨⟨by decide +kernel, by decide +kernel⟩, List.mem_of_getElem? (i := 812) (by decide +kernel), List.mem_of_getElem? (i := 1029) (by decide +kernel), List.mem_of_getElem? (i := 1030) (by decide +kernel)⟩
theorem lw_p40 : lw_okq (⟨"MatchLatticeModel", "finds", "()V"⟩, 38) := ⟨⟨by decide +kernel, by decide +kernel⟩, List.mem_of_getElem? (i := 812) (by decide +kernel), List.mem_of_getElem? (i := 1033) (by decide +kernel), List.mem_of_getElem? (i := 1034) (by decide +kernel)⟩
theorem lw_p41 : lw_okq (⟨"MatchLatticeModel", "nexts", "([I)V"⟩, 38) := ⟨⟨by decide +kernel, by decide +kernel⟩, List.mem_of_getElem? (i := 812) (by decide +kernel), List.mem_of_getElem? (i := 1037) (by decide +kernel), List.mem_of_getElem? (i := 1038) (by decide +kernel)⟩
theorem lw_p42 : lw_okq (⟨"MatchLatticeModel", "leftOf", "([II)I"⟩, 38) := ⟨⟨by decide +kernel, by decide +kernel⟩, List.mem_of_getElem? (i := 812) (by decide +kernel), List.mem_of_getElem? (i := 1041) (by decide +kernel), List.mem_of_getElem? (i := 1042) (by decide +kernel)⟩
theorem lw_p43 : lw_okq (⟨"MatchLatticeModel", "isFirst", "([II)Z"⟩, 38) := ⟨⟨by decide +kernel, by decide +kernel⟩, List.mem_of_getElem? (i := 812) (by decide +kernel), List.mem_of_getElem? (i := 1045) (by decide +kernel), List.mem_of_getElem? (i := 1046) (by decide +kernel)⟩
theorem lw_p44 : lw_okq (⟨"MatchLatticeModel", "does", "(I[I)V"⟩, 38) := ⟨⟨by decide +kernel, by decide +kernel⟩, List.mem_of_getElem? (i := 812) (by decide +kernel), List.mem_of_getElem? (i := 1049) (by decide +kernel), List.mem_of_getElem? (i := 1050) (by decide +kernel)⟩
theorem lw_p45 : lw_okq (⟨"MatchLatticeModel", "without", "(I)V"⟩, 38) := ⟨⟨by decide +kernel, by decide +kernel⟩, List.mem_of_getElem? (i := 812) (by decide +kernel), List.mem_of_getElem? (i := 1053) (by decide +kernel), List.mem_of_getElem? (i := 1054) (by decide +kernel)⟩
theorem lw_p46 : lw_okq (⟨"MatchLatticeModel", "firstExposed", "([II)I"⟩, 38) := ⟨⟨by decide +kernel, by decide +kernel⟩, List.mem_of_getElem? (i := 812) (by decide +kernel), List.mem_of_getElem? (i := 1057) (by decide +kernel), List.mem_of_getElem? (i := 1058) (by decide +kernel)⟩
theorem lw_p47 : lw_okq (⟨"MatchLatticeModel", "numberOf", "()I"⟩, 38) := ⟨⟨by decide +kernel, by decide +kernel⟩, List.mem_of_getElem? (i := 812) (by decide +kernel), List.mem_of_getElem? (i := 1061) (by decide +kernel), List.mem_of_getElem? (i := 1062) (by decide +kernel)⟩
def lw_privs_3 : List (MethodName × Nat) := [(⟨"MatchLatticeModel", "mayStir", "(III)Z"⟩, 38), (⟨"MatchLatticeModel", "stirs", "([IIII)V"⟩, 38), (⟨"MatchLatticeModel", "knows", "()V"⟩, 38), (⟨"MatchLatticeModel", "bests", "(I[I)V"⟩, 38), (⟨"MatchLatticeModel", "asks", "(I)V"⟩, 38), (⟨"MatchLatticeModel", "rather", "(IIII)Z"⟩, 38), (⟨"MatchLatticeModel", "placeOf", "(III)I"⟩, 38), (⟨"MatchLatticeModel", "firstAlone", "()I"⟩, 38), (⟨"MatchLatticeModel", "finds", "()V"⟩, 38), (⟨"MatchLatticeModel", "nexts", "([I)V"⟩, 38), (⟨"MatchLatticeModel", "leftOf", "([II)I"⟩, 38), (⟨"MatchLatticeModel", "isFirst", "([II)Z"⟩, 38), (⟨"MatchLatticeModel", "does", "(I[I)V"⟩, 38), (⟨"MatchLatticeModel", "without", "(I)V"⟩, 38), (⟨"MatchLatticeModel", "firstExposed", "([II)I"⟩, 38), (⟨"MatchLatticeModel", "numberOf", "()I"⟩, 38)]
theorem lw_r3 : ∀ q ∈ lw_privs_3, lw_okq q := List.forall_mem_cons.mpr ⟨lw_p32, List.forall_mem_cons.mpr ⟨lw_p33, List.forall_mem_cons.mpr ⟨lw_p34, List.forall_mem_cons.mpr ⟨lw_p35, List.forall_mem_cons.mpr ⟨lw_p36, List.forall_mem_cons.mpr ⟨lw_p37, List.forall_mem_cons.mpr ⟨lw_p38, List.forall_mem_cons.mpr ⟨lw_p39, List.forall_mem_cons.mpr ⟨lw_p40, List.forall_mem_cons.mpr ⟨lw_p41, List.forall_mem_cons.mpr ⟨lw_p42, List.forall_mem_cons.mpr ⟨lw_p43, List.forall_mem_cons.mpr ⟨lw_p44, List.forall_mem_cons.mpr ⟨lw_p45, List.forall_mem_cons.mpr ⟨lw_p46, List.forall_mem_cons.mpr ⟨lw_p47, fun _ h => absurd h List.not_mem_nil⟩⟩⟩⟩⟩⟩⟩⟩⟩⟩⟩⟩⟩⟩⟩⟩
theorem lw_p48 : lw_okq (⟨"MatchLatticeModel", "gain", "(I)I"⟩, 38) := ⟨⟨by decide +kernel, by decide +kernel⟩, List.mem_of_getElem? (i := 812) (by decide +kernel), List.mem_of_getElem? (i := 1098) (by decide +kernel), List.mem_of_getElem? (i := 1099) (by decide +kernel)⟩
theorem lw_p49 : lw_okq (⟨"MatchLatticeModel", "isMatch", "(I)Z"⟩, 38) := ⟨⟨by decide +kernel, by decide +kernel⟩, List.mem_of_getElem? (i := 812) (by decide +kernel), List.mem_of_getElem? (i := 1106) (by decide +kernel), List.mem_of_getElem? (i := 1107) (by decide +kernel)⟩
theorem lw_p50 : lw_okq (⟨"MatchLatticeModel", "makes", "(I[I)V"⟩, 38) := ⟨⟨by decide +kernel, by decide +kernel⟩, List.mem_of_getElem? (i := 812) (by decide +kernel), List.mem_of_getElem? (i := 1110) (by decide +kernel), List.mem_of_getElem? (i := 1111) (by decide +kernel)⟩
theorem lw_p51 : lw_okq (⟨"MatchLatticeModel", "costOf", "(II)I"⟩, 38) := ⟨⟨by decide +kernel, by decide +kernel⟩, List.mem_of_getElem? (i := 812) (by decide +kernel), List.mem_of_getElem? (i := 1126) (by decide +kernel), List.mem_of_getElem? (i := 1127) (by decide +kernel)⟩
theorem lw_p52 : lw_okq (⟨"MatchLatticeModel", "numberOf", "([I)I"⟩, 38) := ⟨⟨by decide +kernel, by decide +kernel⟩, List.mem_of_getElem? (i := 812) (by decide +kernel), List.mem_of_getElem? (i := 1143) (by decide +kernel), List.mem_of_getElem? (i := 1144) (by decide +kernel)⟩
theorem lw_p53 : lw_okq (⟨"MatchLatticeModel", "isLike", "([I[I)Z"⟩, 38) := ⟨⟨by decide +kernel, by decide +kernel⟩, List.mem_of_getElem? (i := 812) (by decide +kernel), List.mem_of_getElem? (i := 1147) (by decide +kernel), List.mem_of_getElem? (i := 1148) (by decide +kernel)⟩
theorem lw_p54 : lw_okq (⟨"MatchLatticeModel", "lies", "(II)V"⟩, 38) := ⟨⟨by decide +kernel, by decide +kernel⟩, List.mem_of_getElem? (i := 812) (by decide +kernel), List.mem_of_getElem? (i := 1171) (by decide +kernel), List.mem_of_getElem? (i := 1172) (by decide +kernel)⟩
theorem lw_p55 : lw_okq (⟨"MatchLatticeModel", "swaps", "(II)V"⟩, 38) := ⟨⟨by decide +kernel, by decide +kernel⟩, List.mem_of_getElem? (i := 812) (by decide +kernel), List.mem_of_getElem? (i := 1175) (by decide +kernel), List.mem_of_getElem? (i := 1176) (by decide +kernel)⟩
theorem lw_p56 : lw_okq (⟨"MatchLatticeModel", "gives", "([III)V"⟩, 38) := ⟨⟨by decide +kernel, by decide +kernel⟩, List.mem_of_getElem? (i := 812) (by decide +kernel), List.mem_of_getElem? (i := 1187) (by decide +kernel), List.mem_of_getElem? (i := 1188) (by decide +kernel)⟩
theorem lw_p57 : lw_okq (⟨"MatchLatticeModel", "handLeft", "([II)I"⟩, 38) := ⟨⟨by decide +kernel, by decide +kernel⟩, List.mem_of_getElem? (i := 812) (by decide +kernel), List.mem_of_getElem? (i := 1191) (by decide +kernel), List.mem_of_getElem? (i := 1192) (by decide +kernel)⟩
theorem lw_p58 : lw_okq (⟨"MatchLatticeModel", "firstBlocking", "([I)I"⟩, 38) := ⟨⟨by decide +kernel, by decide +kernel⟩, List.mem_of_getElem? (i := 812) (by decide +kernel), List.mem_of_getElem? (i := 1203) (by decide +kernel), List.mem_of_getElem? (i := 1204) (by decide +kernel)⟩
theorem lw_p59 : lw_okq (⟨"MatchLatticeModel", "blocks", "([III)Z"⟩, 38) := ⟨⟨by decide +kernel, by decide +kernel⟩, List.mem_of_getElem? (i := 812) (by decide +kernel), List.mem_of_getElem? (i := 1207) (by decide +kernel), List.mem_of_getElem? (i := 1208) (by decide +kernel)⟩
def lw_privs_4 : List (MethodName × Nat) := [(⟨"MatchLatticeModel", "gain", "(I)I"⟩, 38), (⟨"MatchLatticeModel", "isMatch", "(I)Z"⟩, 38), (⟨"MatchLatticeModel", "makes", "(I[I)V"⟩, 38), (⟨"MatchLatticeModel", "costOf", "(II)I"⟩, 38), (⟨"MatchLatticeModel", "numberOf", "([I)I"⟩, 38), (⟨"MatchLatticeModel", "isLike", "([I[I)Z"⟩, 38), (⟨"MatchLatticeModel", "lies", "(II)V"⟩, 38), (⟨"MatchLatticeModel", "swaps", "(II)V"⟩, 38), (⟨"MatchLatticeModel", "gives", "([III)V"⟩, 38), (⟨"MatchLatticeModel", "handLeft", "([II)I"⟩, 38), (⟨"MatchLatticeModel", "firstBlocking", "([I)I"⟩, 38), (⟨"MatchLatticeModel", "blocks", "([III)Z"⟩, 38)]
theorem lw_r4 : ∀ q ∈ lw_privs_4, lw_okq q := List.forall_mem_cons.mpr ⟨lw_p48, List.forall_mem_cons.mpr ⟨lw_p49, List.forall_mem_cons.mpr ⟨lw_p50, List.forall_mem_cons.mpr ⟨lw_p51, List.forall_mem_cons.mpr ⟨lw_p52, List.forall_mem_cons.mpr ⟨lw_p53, List.forall_mem_cons.mpr ⟨lw_p54, List.forall_mem_cons.mpr ⟨lw_p55, List.forall_mem_cons.mpr ⟨lw_p56, List.forall_mem_cons.mpr ⟨lw_p57, List.forall_mem_cons.mpr ⟨lw_p58, List.forall_mem_cons.mpr ⟨lw_p59, fun _ h => absurd h List.not_mem_nil⟩⟩⟩⟩⟩⟩⟩⟩⟩⟩⟩⟩
def lw_privs : List (MethodName × Nat) := lw_privs_1 ++ (lw_privs_2 ++ (lw_privs_3 ++ (lw_privs_4)))
def lw_tbl : List Cond := k2_sels lw_privs ++ tables_1
theorem lw_privs_ok : ∀ q ∈ lw_privs, lw_okq q := by
  show ∀ q ∈ lw_privs_1 ++ (lw_privs_2 ++ (lw_privs_3 ++ (lw_privs_4))), lw_okq q
  exact List.forall_mem_append.mpr ⟨lw_r1, List.forall_mem_append.mpr ⟨lw_r2, List.forall_mem_append.mpr ⟨lw_r3, lw_r4⟩⟩⟩
-- ===== the classes and the methods, by their printed names =====
def RX0 : String := "MatchLattice$Asking"
def TX0 : u_T := fun k => match k with
  | 0 => ("MatchLattice$Asking", "outcome", "LMatchLattice$Pairing;", true)
  | 1 => ("MatchLattice$Asking", "askedAlready", "LMatchLattice$Row;", true)
  | 2 => ("MatchLattice$Asking", "told", "LMatchLattice$Row;", true)
  | _ => ("MatchLattice$Asking", "times", "I", false)
def tyX0 : Nat → FieldType := fun k => match k with
  | 0 => .object "MatchLattice$Pairing"
  | 1 => .object "MatchLattice$Row"
  | 2 => .object "MatchLattice$Row"
  | _ => .int
abbrev wsX00 : List Cond := u_ws RX0 TX0 4
theorem nmX0 : ∀ a, a < 4 → ∀ b, b < 4 → a ≠ b → (TX0 a).2.1 ≠ (TX0 b).2.1 := by decide +kernel
theorem tyX0_ok : ∀ k, k < 4 → parseFieldDescriptor (TX0 k).2.2.1 = some (tyX0 k) := by decide +kernel
abbrev cX0_init : ByteArray := prog_2_method_1_code
def yX0_init : MethodName := ⟨RX0, "<init>", "()V"⟩
abbrev cX0_outcome : ByteArray := prog_2_method_2_code
def yX0_outcome : MethodName := ⟨RX0, "outcome", "()LMatchLattice$Pairing;"⟩
abbrev cX0_times : ByteArray := prog_2_method_3_code
def yX0_times : MethodName := ⟨RX0, "times", "()I"⟩
abbrev cX0_told : ByteArray := prog_2_method_4_code
def yX0_told : MethodName := ⟨RX0, "told", "(I)I"⟩
abbrev cX0_run : ByteArray := prog_2_method_5_code
def yX0_run : MethodName := ⟨RX0, "run", "(LMatchLattice$Lists;I)V"⟩
abbrev cX0_leastAlone : ByteArray := prog_2_method_6_code
def yX0_leastAlone : MethodName := ⟨RX0, "leastAlone", "(II)I"⟩
abbrev cX0_ask : ByteArray := prog_2_method_7_code
def yX0_ask : MethodName := ⟨RX0, "ask", "(LMatchLattice$Lists;II)V"⟩
def RX1 : String := "MatchLattice$History"
def TX1 : u_T := fun k => match k with
  | 0 => ("MatchLattice$History", "steps", "LMatchLattice$Row;", true)
  | 1 => ("MatchLattice$History", "oldest", "I", false)
  | 2 => ("MatchLattice$History", "behind", "I", false)
  | _ => ("MatchLattice$History", "before", "I", false)
def tyX1 : Nat → FieldType := fun k => match k with
  | 0 => .object "MatchLattice$Row"
  | 1 => .int
  | 2 => .int
  | _ => .int
abbrev wsX10 : List Cond := u_ws RX1 TX1 4
theorem nmX1 : ∀ a, a < 4 → ∀ b, b < 4 → a ≠ b → (TX1 a).2.1 ≠ (TX1 b).2.1 := by decide +kernel
theorem tyX1_ok : ∀ k, k < 4 → parseFieldDescriptor (TX1 k).2.2.1 = some (tyX1 k) := by decide +kernel
abbrev cX1_init : ByteArray := prog_3_method_1_code
def yX1_init : MethodName := ⟨RX1, "<init>", "()V"⟩
abbrev cX1_behind : ByteArray := prog_3_method_2_code
def yX1_behind : MethodName := ⟨RX1, "behind", "()I"⟩
abbrev cX1_before : ByteArray := prog_3_method_3_code
def yX1_before : MethodName := ⟨RX1, "before", "()I"⟩
abbrev cX1_forget : ByteArray := prog_3_method_4_code
def yX1_forget : MethodName := ⟨RX1, "forget", "(LMatchLattice$Lists;)V"⟩
abbrev cX1_note : ByteArray := prog_3_method_5_code
def yX1_note : MethodName := ⟨RX1, "note", "(LMatchLattice$Lists;)V"⟩
abbrev cX1_stepBack : ByteArray := prog_3_method_6_code
def yX1_stepBack : MethodName := ⟨RX1, "stepBack", "(LMatchLattice$Lists;)V"⟩
abbrev cX1_stepOn : ByteArray := prog_3_method_7_code
def yX1_stepOn : MethodName := ⟨RX1, "stepOn", "(LMatchLattice$Lists;)V"⟩
abbrev cX1_start : ByteArray := prog_3_method_8_code
def yX1_start : MethodName := ⟨RX1, "start", "()I"⟩
def RX2 : String := "MatchLattice$Image"
def TX2 : u_T := fun k => match k with
  | 0 => ("MatchLattice$Image", "lists", "LMatchLattice$Lists;", true)
  | 1 => ("MatchLattice$Image", "pairing", "LMatchLattice$Pairing;", true)
  | _ => ("MatchLattice$Image", "there", "Z", false)
def tyX2 : Nat → FieldType := fun k => match k with
  | 0 => .object "MatchLattice$Lists"
  | 1 => .object "MatchLattice$Pairing"
  | _ => .boolean
abbrev wsX20 : List Cond := u_ws RX2 TX2 3
theorem nmX2 : ∀ a, a < 3 → ∀ b, b < 3 → a ≠ b → (TX2 a).2.1 ≠ (TX2 b).2.1 := by decide +kernel
theorem tyX2_ok : ∀ k, k < 3 → parseFieldDescriptor (TX2 k).2.2.1 = some (tyX2 k) := by decide +kernel
abbrev cX2_init : ByteArray := prog_4_method_1_code
def yX2_init : MethodName := ⟨RX2, "<init>", "()V"⟩
abbrev cX2_isThere : ByteArray := prog_4_method_2_code
def yX2_isThere : MethodName := ⟨RX2, "isThere", "()Z"⟩
abbrev cX2_take : ByteArray := prog_4_method_3_code
def yX2_take : MethodName := ⟨RX2, "take", "(LMatchLattice$Lists;LMatchLattice$Pairing;)V"⟩
abbrev cX2_layBack : ByteArray := prog_4_method_4_code
def yX2_layBack : MethodName := ⟨RX2, "layBack", "(LMatchLattice$Lists;LMatchLattice$Pairing;)V"⟩
def RX3 : String := "MatchLattice$Lists"
def TX3 : u_T := fun k => match k with
  | 0 => ("MatchLattice$Lists", "whos", "LMatchLattice$Row;", true)
  | 1 => ("MatchLattice$Lists", "places", "LMatchLattice$Row;", true)
  | _ => ("MatchLattice$Lists", "each", "I", false)
def tyX3 : Nat → FieldType := fun k => match k with
  | 0 => .object "MatchLattice$Row"
  | 1 => .object "MatchLattice$Row"
  | _ => .int
abbrev wsX30 : List Cond := u_ws RX3 TX3 3
theorem nmX3 : ∀ a, a < 3 → ∀ b, b < 3 → a ≠ b → (TX3 a).2.1 ≠ (TX3 b).2.1 := by decide +kernel
theorem tyX3_ok : ∀ k, k < 3 → parseFieldDescriptor (TX3 k).2.2.1 = some (tyX3 k) := by decide +kernel
abbrev cX3_init : ByteArray := prog_5_method_1_code
def yX3_init : MethodName := ⟨RX3, "<init>", "()V"⟩
abbrev cX3_each : ByteArray := prog_5_method_2_code
def yX3_each : MethodName := ⟨RX3, "each", "()I"⟩
abbrev cX3_begin : ByteArray := prog_5_method_3_code
def yX3_begin : MethodName := ⟨RX3, "begin", "(I)V"⟩
abbrev cX3_copyFrom : ByteArray := prog_5_method_4_code
def yX3_copyFrom : MethodName := ⟨RX3, "copyFrom", "(LMatchLattice$Lists;)V"⟩
abbrev cX3_who : ByteArray := prog_5_method_5_code
def yX3_who : MethodName := ⟨RX3, "who", "(III)I"⟩
abbrev cX3_place : ByteArray := prog_5_method_6_code
def yX3_place : MethodName := ⟨RX3, "place", "(III)I"⟩
abbrev cX3_wouldRather : ByteArray := prog_5_method_7_code
def yX3_wouldRather : MethodName := ⟨RX3, "wouldRather", "(IIII)Z"⟩
abbrev cX3_put : ByteArray := prog_5_method_8_code
def yX3_put : MethodName := ⟨RX3, "put", "(IIII)V"⟩
abbrev cX3_exchange : ByteArray := prog_5_method_9_code
def yX3_exchange : MethodName := ⟨RX3, "exchange", "(III)V"⟩
abbrev cX3_orders : ByteArray := prog_5_method_10_code
def yX3_orders : MethodName := ⟨RX3, "orders", "()I"⟩
abbrev cX3_arrange : ByteArray := prog_5_method_11_code
def yX3_arrange : MethodName := ⟨RX3, "arrange", "(III)V"⟩
abbrev cX3_unused : ByteArray := prog_5_method_12_code
def yX3_unused : MethodName := ⟨RX3, "unused", "(II)I"⟩
abbrev cX3_doBlock : ByteArray := prog_5_method_13_code
def yX3_doBlock : MethodName := ⟨RX3, "doBlock", "(LMatchLattice$Pairing;II)Z"⟩
abbrev cX3_firstBlock : ByteArray := prog_5_method_14_code
def yX3_firstBlock : MethodName := ⟨RX3, "firstBlock", "(LMatchLattice$Pairing;)I"⟩
abbrev cX3_howManyBlock : ByteArray := prog_5_method_15_code
def yX3_howManyBlock : MethodName := ⟨RX3, "howManyBlock", "(LMatchLattice$Pairing;)I"⟩
abbrev cX3_costOf : ByteArray := prog_5_method_16_code
def yX3_costOf : MethodName := ⟨RX3, "costOf", "(LMatchLattice$Pairing;I)I"⟩
abbrev cX3_saveTo : ByteArray := prog_5_method_17_code
def yX3_saveTo : MethodName := ⟨RX3, "saveTo", "(LMatchLattice$Row;I)V"⟩
abbrev cX3_loadFrom : ByteArray := prog_5_method_18_code
def yX3_loadFrom : MethodName := ⟨RX3, "loadFrom", "(LMatchLattice$Row;I)V"⟩
abbrev cX3_cell : ByteArray := prog_5_method_19_code
def yX3_cell : MethodName := ⟨RX3, "cell", "(III)I"⟩
def RX4 : String := "MatchLattice$Matches"
def TX4 : u_T := fun k => match k with
  | 0 => ("MatchLattice$Matches", "closed", "LMatchLattice$Row;", true)
  | 1 => ("MatchLattice$Matches", "total", "I", false)
  | 2 => ("MatchLattice$Matches", "first", "LMatchLattice$Pairing;", true)
  | _ => ("MatchLattice$Matches", "loaded", "LMatchLattice$Pairing;", true)
def tyX4 : Nat → FieldType := fun k => match k with
  | 0 => .object "MatchLattice$Row"
  | 1 => .int
  | 2 => .object "MatchLattice$Pairing"
  | _ => .object "MatchLattice$Pairing"
abbrev wsX40 : List Cond := u_ws RX4 TX4 4
theorem nmX4 : ∀ a, a < 4 → ∀ b, b < 4 → a ≠ b → (TX4 a).2.1 ≠ (TX4 b).2.1 := by decide +kernel
theorem tyX4_ok : ∀ k, k < 4 → parseFieldDescriptor (TX4 k).2.2.1 = some (tyX4 k) := by decide +kernel
abbrev cX4_init : ByteArray := prog_6_method_1_code
def yX4_init : MethodName := ⟨RX4, "<init>", "()V"⟩
abbrev cX4_total : ByteArray := prog_6_method_2_code
def yX4_total : MethodName := ⟨RX4, "total", "()I"⟩
abbrev cX4_isMatch : ByteArray := prog_6_method_3_code
def yX4_isMatch : MethodName := ⟨RX4, "isMatch", "(I)Z"⟩
abbrev cX4_bits : ByteArray := prog_6_method_4_code
def yX4_bits : MethodName := ⟨RX4, "bits", "(I)I"⟩
abbrev cX4_numberOf : ByteArray := prog_6_method_5_code
def yX4_numberOf : MethodName := ⟨RX4, "numberOf", "(I)I"⟩
abbrev cX4_find : ByteArray := prog_6_method_6_code
def yX4_find : MethodName := ⟨RX4, "find", "(LMatchLattice$Turns;LMatchLattice$Pairing;)V"⟩
abbrev cX4_load : ByteArray := prog_6_method_7_code
def yX4_load : MethodName := ⟨RX4, "load", "(ILMatchLattice$Turns;)LMatchLattice$Pairing;"⟩
def RX5 : String := "MatchLattice$Pairing"
def TX5 : u_T := fun k => match k with
  | _ => ("MatchLattice$Pairing", "partners", "LMatchLattice$Row;", true)
def tyX5 : Nat → FieldType := fun k => match k with
  | _ => .object "MatchLattice$Row"
abbrev wsX50 : List Cond := u_ws RX5 TX5 1
theorem nmX5 : ∀ a, a < 1 → ∀ b, b < 1 → a ≠ b → (TX5 a).2.1 ≠ (TX5 b).2.1 := by decide +kernel
theorem tyX5_ok : ∀ k, k < 1 → parseFieldDescriptor (TX5 k).2.2.1 = some (tyX5 k) := by decide +kernel
abbrev cX5_init : ByteArray := prog_7_method_1_code
def yX5_init : MethodName := ⟨RX5, "<init>", "()V"⟩
abbrev cX5_clear : ByteArray := prog_7_method_2_code
def yX5_clear : MethodName := ⟨RX5, "clear", "()V"⟩
abbrev cX5_copyFrom : ByteArray := prog_7_method_3_code
def yX5_copyFrom : MethodName := ⟨RX5, "copyFrom", "(LMatchLattice$Pairing;)V"⟩
abbrev cX5_partner : ByteArray := prog_7_method_4_code
def yX5_partner : MethodName := ⟨RX5, "partner", "(II)I"⟩
abbrev cX5_part : ByteArray := prog_7_method_5_code
def yX5_part : MethodName := ⟨RX5, "part", "(II)V"⟩
abbrev cX5_join : ByteArray := prog_7_method_6_code
def yX5_join : MethodName := ⟨RX5, "join", "(III)V"⟩
abbrev cX5_tie : ByteArray := prog_7_method_7_code
def yX5_tie : MethodName := ⟨RX5, "tie", "(III)V"⟩
abbrev cX5_cell : ByteArray := prog_7_method_8_code
def yX5_cell : MethodName := ⟨RX5, "cell", "(II)I"⟩
def RX6 : String := "MatchLattice$Row"
def TX6 : u_T := fun k => match k with
  | _ => ("MatchLattice$Row", "cells", "[I", true)
def tyX6 : Nat → FieldType := fun k => match k with
  | _ => .array .int
abbrev wsX60 : List Cond := u_ws RX6 TX6 1
theorem nmX6 : ∀ a, a < 1 → ∀ b, b < 1 → a ≠ b → (TX6 a).2.1 ≠ (TX6 b).2.1 := by decide +kernel
theorem tyX6_ok : ∀ k, k < 1 → parseFieldDescriptor (TX6 k).2.2.1 = some (tyX6 k) := by decide +kernel
abbrev cX6_init : ByteArray := prog_8_method_1_code
def yX6_init : MethodName := ⟨RX6, "<init>", "(I)V"⟩
abbrev cX6_get : ByteArray := prog_8_method_2_code
def yX6_get : MethodName := ⟨RX6, "get", "(I)I"⟩
abbrev cX6_set : ByteArray := prog_8_method_3_code
def yX6_set : MethodName := ⟨RX6, "set", "(II)V"⟩
abbrev cX6_fill : ByteArray := prog_8_method_4_code
def yX6_fill : MethodName := ⟨RX6, "fill", "(I)V"⟩
abbrev cX6_copyFrom : ByteArray := prog_8_method_5_code
def yX6_copyFrom : MethodName := ⟨RX6, "copyFrom", "(LMatchLattice$Row;)V"⟩
def RX7 : String := "MatchLattice$Tape"
def TX7 : u_T := fun k => match k with
  | 0 => ("MatchLattice$Tape", "bytes", "LMatchLattice$Row;", true)
  | _ => ("MatchLattice$Tape", "length", "I", false)
def tyX7 : Nat → FieldType := fun k => match k with
  | 0 => .object "MatchLattice$Row"
  | _ => .int
abbrev wsX70 : List Cond := u_ws RX7 TX7 2
theorem nmX7 : ∀ a, a < 2 → ∀ b, b < 2 → a ≠ b → (TX7 a).2.1 ≠ (TX7 b).2.1 := by decide +kernel
theorem tyX7_ok : ∀ k, k < 2 → parseFieldDescriptor (TX7 k).2.2.1 = some (tyX7 k) := by decide +kernel
abbrev cX7_init : ByteArray := prog_9_method_1_code
def yX7_init : MethodName := ⟨RX7, "<init>", "()V"⟩
abbrev cX7_length : ByteArray := prog_9_method_2_code
def yX7_length : MethodName := ⟨RX7, "length", "()I"⟩
abbrev cX7_add : ByteArray := prog_9_method_3_code
def yX7_add : MethodName := ⟨RX7, "add", "(I)Z"⟩
abbrev cX7_clear : ByteArray := prog_9_method_4_code
def yX7_clear : MethodName := ⟨RX7, "clear", "()V"⟩
abbrev cX7_readInto : ByteArray := prog_9_method_5_code
def yX7_readInto : MethodName := ⟨RX7, "readInto", "(LMatchLattice$Lists;)I"⟩
abbrev cX7_readLine : ByteArray := prog_9_method_6_code
def yX7_readLine : MethodName := ⟨RX7, "readLine", "(ILMatchLattice$Lists;)I"⟩
abbrev cX7_readFigures : ByteArray := prog_9_method_7_code
def yX7_readFigures : MethodName := ⟨RX7, "readFigures", "(ILMatchLattice$Lists;II)I"⟩
abbrev cX7_sideAt : ByteArray := prog_9_method_8_code
def yX7_sideAt : MethodName := ⟨RX7, "sideAt", "(I)I"⟩
abbrev cX7_figureAt : ByteArray := prog_9_method_9_code
def yX7_figureAt : MethodName := ⟨RX7, "figureAt", "(II)I"⟩
abbrev cX7_byteAt : ByteArray := prog_9_method_10_code
def yX7_byteAt : MethodName := ⟨RX7, "byteAt", "(I)I"⟩
abbrev cX7_faultAt : ByteArray := prog_9_method_11_code
def yX7_faultAt : MethodName := ⟨RX7, "faultAt", "(I)I"⟩
def RX8 : String := "MatchLattice$Turns"
def TX8 : u_T := fun k => match k with
  | 0 => ("MatchLattice$Turns", "lefts", "LMatchLattice$Row;", true)
  | 1 => ("MatchLattice$Turns", "rights", "LMatchLattice$Row;", true)
  | 2 => ("MatchLattice$Turns", "lengths", "LMatchLattice$Row;", true)
  | 3 => ("MatchLattice$Turns", "gains", "LMatchLattice$Row;", true)
  | 4 => ("MatchLattice$Turns", "needs", "LMatchLattice$Row;", true)
  | 5 => ("MatchLattice$Turns", "depths", "LMatchLattice$Row;", true)
  | 6 => ("MatchLattice$Turns", "total", "I", false)
  | 7 => ("MatchLattice$Turns", "now", "LMatchLattice$Pairing;", true)
  | 8 => ("MatchLattice$Turns", "followers", "LMatchLattice$Row;", true)
  | 9 => ("MatchLattice$Turns", "broughtBy", "LMatchLattice$Row;", true)
  | _ => ("MatchLattice$Turns", "passedBy", "LMatchLattice$Row;", true)
def tyX8 : Nat → FieldType := fun k => match k with
  | 0 => .object "MatchLattice$Row"
  | 1 => .object "MatchLattice$Row"
  | 2 => .object "MatchLattice$Row"
  | 3 => .object "MatchLattice$Row"
  | 4 => .object "MatchLattice$Row"
  | 5 => .object "MatchLattice$Row"
  | 6 => .int
  | 7 => .object "MatchLattice$Pairing"
  | 8 => .object "MatchLattice$Row"
  | 9 => .object "MatchLattice$Row"
  | _ => .object "MatchLattice$Row"
abbrev wsX80 : List Cond := u_ws RX8 TX8 11
theorem nmX8 : ∀ a, a < 11 → ∀ b, b < 11 → a ≠ b → (TX8 a).2.1 ≠ (TX8 b).2.1 := by decide +kernel
theorem tyX8_ok : ∀ k, k < 11 → parseFieldDescriptor (TX8 k).2.2.1 = some (tyX8 k) := by decide +kernel
abbrev cX8_init : ByteArray := prog_10_method_1_code
def yX8_init : MethodName := ⟨RX8, "<init>", "()V"⟩
abbrev cX8_total : ByteArray := prog_10_method_2_code
def yX8_total : MethodName := ⟨RX8, "total", "()I"⟩
abbrev cX8_isTurn : ByteArray := prog_10_method_3_code
def yX8_isTurn : MethodName := ⟨RX8, "isTurn", "(I)Z"⟩
abbrev cX8_length : ByteArray := prog_10_method_4_code
def yX8_length : MethodName := ⟨RX8, "length", "(I)I"⟩
abbrev cX8_left : ByteArray := prog_10_method_5_code
def yX8_left : MethodName := ⟨RX8, "left", "(II)I"⟩
abbrev cX8_right : ByteArray := prog_10_method_6_code
def yX8_right : MethodName := ⟨RX8, "right", "(II)I"⟩
abbrev cX8_gain : ByteArray := prog_10_method_7_code
def yX8_gain : MethodName := ⟨RX8, "gain", "(I)I"⟩
abbrev cX8_needs : ByteArray := prog_10_method_8_code
def yX8_needs : MethodName := ⟨RX8, "needs", "(I)I"⟩
abbrev cX8_depth : ByteArray := prog_10_method_9_code
def yX8_depth : MethodName := ⟨RX8, "depth", "(I)I"⟩
abbrev cX8_openTo : ByteArray := prog_10_method_10_code
def yX8_openTo : MethodName := ⟨RX8, "openTo", "(I)I"⟩
abbrev cX8_isReady : ByteArray := prog_10_method_11_code
def yX8_isReady : MethodName := ⟨RX8, "isReady", "(II)Z"⟩
abbrev cX8_gainOfAll : ByteArray := prog_10_method_12_code
def yX8_gainOfAll : MethodName := ⟨RX8, "gainOfAll", "(I)I"⟩
abbrev cX8_partnersLeft : ByteArray := prog_10_method_13_code
def yX8_partnersLeft : MethodName := ⟨RX8, "partnersLeft", "(II)I"⟩
abbrev cX8_movers : ByteArray := prog_10_method_14_code
def yX8_movers : MethodName := ⟨RX8, "movers", "()I"⟩
abbrev cX8_behind : ByteArray := prog_10_method_15_code
def yX8_behind : MethodName := ⟨RX8, "behind", "(LMatchLattice$Pairing;LMatchLattice$Lists;)I"⟩
abbrev cX8_perform : ByteArray := prog_10_method_16_code
def yX8_perform : MethodName := ⟨RX8, "perform", "(ILMatchLattice$Pairing;)V"⟩
abbrev cX8_find : ByteArray := prog_10_method_17_code
def yX8_find : MethodName := ⟨RX8, "find", "(LMatchLattice$Lists;LMatchLattice$Pairing;)V"⟩
abbrev cX8_nextOf : ByteArray := prog_10_method_18_code
def yX8_nextOf : MethodName := ⟨RX8, "nextOf", "(ILMatchLattice$Lists;)I"⟩
abbrev cX8_firstLeader : ByteArray := prog_10_method_19_code
def yX8_firstLeader : MethodName := ⟨RX8, "firstLeader", "(I)I"⟩
abbrev cX8_comesBack : ByteArray := prog_10_method_20_code
def yX8_comesBack : MethodName := ⟨RX8, "comesBack", "(II)Z"⟩
abbrev cX8_keepPairs : ByteArray := prog_10_method_21_code
def yX8_keepPairs : MethodName := ⟨RX8, "keepPairs", "(II)V"⟩
abbrev cX8_following : ByteArray := prog_10_method_22_code
def yX8_following : MethodName := ⟨RX8, "following", "(II)I"⟩
abbrev cX8_keepNeeds : ByteArray := prog_10_method_23_code
def yX8_keepNeeds : MethodName := ⟨RX8, "keepNeeds", "(ILMatchLattice$Lists;)V"⟩
abbrev cX8_withNeeds : ByteArray := prog_10_method_24_code
def yX8_withNeeds : MethodName := ⟨RX8, "withNeeds", "(I)I"⟩
abbrev cX8_depthBehind : ByteArray := prog_10_method_25_code
def yX8_depthBehind : MethodName := ⟨RX8, "depthBehind", "(II)I"⟩
abbrev cX8_weigh : ByteArray := prog_10_method_26_code
def yX8_weigh : MethodName := ⟨RX8, "weigh", "(ILMatchLattice$Lists;)I"⟩
abbrev cX8_markPassed : ByteArray := prog_10_method_27_code
def yX8_markPassed : MethodName := ⟨RX8, "markPassed", "(ILMatchLattice$Lists;)V"⟩
def RX9 : String := "MatchLattice"
def TX9 : u_T := fun k => match k with
  | 0 => ("MatchLattice", "tape", "LMatchLattice$Tape;", true)
  | 1 => ("MatchLattice", "told", "LMatchLattice$Lists;", true)
  | 2 => ("MatchLattice", "draft", "LMatchLattice$Lists;", true)
  | 3 => ("MatchLattice", "history", "LMatchLattice$History;", true)
  | 4 => ("MatchLattice", "asked", "LMatchLattice$Asking;", true)
  | 5 => ("MatchLattice", "turns", "LMatchLattice$Turns;", true)
  | 6 => ("MatchLattice", "matches", "LMatchLattice$Matches;", true)
  | 7 => ("MatchLattice", "byHand", "LMatchLattice$Pairing;", true)
  | 8 => ("MatchLattice", "afterMending", "LMatchLattice$Pairing;", true)
  | 9 => ("MatchLattice", "kept", "LMatchLattice$Image;", true)
  | _ => ("MatchLattice", "settled", "Z", false)
def tyX9 : Nat → FieldType := fun k => match k with
  | 0 => .object "MatchLattice$Tape"
  | 1 => .object "MatchLattice$Lists"
  | 2 => .object "MatchLattice$Lists"
  | 3 => .object "MatchLattice$History"
  | 4 => .object "MatchLattice$Asking"
  | 5 => .object "MatchLattice$Turns"
  | 6 => .object "MatchLattice$Matches"
  | 7 => .object "MatchLattice$Pairing"
  | 8 => .object "MatchLattice$Pairing"
  | 9 => .object "MatchLattice$Image"
  | _ => .boolean
abbrev wsX90 : List Cond := u_ws RX9 TX9 11
theorem nmX9 : ∀ a, a < 11 → ∀ b, b < 11 → a ≠ b → (TX9 a).2.1 ≠ (TX9 b).2.1 := by decide +kernel
theorem tyX9_ok : ∀ k, k < 11 → parseFieldDescriptor (TX9 k).2.2.1 = some (tyX9 k) := by decide +kernel
abbrev cX9_init : ByteArray := prog_1_method_1_code
def yX9_init : MethodName := ⟨RX9, "<init>", "()V"⟩
abbrev cX9_size : ByteArray := prog_1_method_2_code
def yX9_size : MethodName := ⟨RX9, "size", "(I)I"⟩
abbrev cX9_feed : ByteArray := prog_1_method_3_code
def yX9_feed : MethodName := ⟨RX9, "feed", "(I)I"⟩
abbrev cX9_lists : ByteArray := prog_1_method_4_code
def yX9_lists : MethodName := ⟨RX9, "lists", "()I"⟩
abbrev cX9_list : ByteArray := prog_1_method_5_code
def yX9_list : MethodName := ⟨RX9, "list", "(III)I"⟩
abbrev cX9_stir : ByteArray := prog_1_method_6_code
def yX9_stir : MethodName := ⟨RX9, "stir", "(III)I"⟩
abbrev cX9_stirred : ByteArray := prog_1_method_7_code
def yX9_stirred : MethodName := ⟨RX9, "stirred", "(III)I"⟩
abbrev cX9_undo : ByteArray := prog_1_method_8_code
def yX9_undo : MethodName := ⟨RX9, "undo", "()I"⟩
abbrev cX9_redo : ByteArray := prog_1_method_9_code
def yX9_redo : MethodName := ⟨RX9, "redo", "()I"⟩
abbrev cX9_best : ByteArray := prog_1_method_10_code
def yX9_best : MethodName := ⟨RX9, "best", "(III)I"⟩
abbrev cX9_asking : ByteArray := prog_1_method_11_code
def yX9_asking : MethodName := ⟨RX9, "asking", "(II)I"⟩
abbrev cX9_rounds : ByteArray := prog_1_method_12_code
def yX9_rounds : MethodName := ⟨RX9, "rounds", "(I)I"⟩
abbrev cX9_pair : ByteArray := prog_1_method_13_code
def yX9_pair : MethodName := ⟨RX9, "pair", "(II)I"⟩
abbrev cX9_ahead : ByteArray := prog_1_method_14_code
def yX9_ahead : MethodName := ⟨RX9, "ahead", "(I)I"⟩
abbrev cX9_of : ByteArray := prog_1_method_15_code
def yX9_of : MethodName := ⟨RX9, "of", "(II)I"⟩
abbrev cX9_exposed : ByteArray := prog_1_method_16_code
def yX9_exposed : MethodName := ⟨RX9, "exposed", "(I)I"⟩
abbrev cX9_match : ByteArray := prog_1_method_17_code
def yX9_match : MethodName := ⟨RX9, "match", "(I)I"⟩
abbrev cX9_has : ByteArray := prog_1_method_18_code
def yX9_has : MethodName := ⟨RX9, "has", "(III)I"⟩
abbrev cX9_cost : ByteArray := prog_1_method_19_code
def yX9_cost : MethodName := ⟨RX9, "cost", "(II)I"⟩
abbrev cX9_pick : ByteArray := prog_1_method_20_code
def yX9_pick : MethodName := ⟨RX9, "pick", "(I)I"⟩
abbrev cX9_most : ByteArray := prog_1_method_21_code
def yX9_most : MethodName := ⟨RX9, "most", "()I"⟩
abbrev cX9_either : ByteArray := prog_1_method_22_code
def yX9_either : MethodName := ⟨RX9, "either", "(III)I"⟩
abbrev cX9_middle : ByteArray := prog_1_method_23_code
def yX9_middle : MethodName := ⟨RX9, "middle", "(III)I"⟩
abbrev cX9_may : ByteArray := prog_1_method_24_code
def yX9_may : MethodName := ⟨RX9, "may", "(II)I"⟩
abbrev cX9_fixed : ByteArray := prog_1_method_25_code
def yX9_fixed : MethodName := ⟨RX9, "fixed", "()I"⟩
abbrev cX9_lie : ByteArray := prog_1_method_26_code
def yX9_lie : MethodName := ⟨RX9, "lie", "(II)I"⟩
abbrev cX9_text : ByteArray := prog_1_method_27_code
def yX9_text : MethodName := ⟨RX9, "text", "(II)I"⟩
abbrev cX9_hand : ByteArray := prog_1_method_28_code
def yX9_hand : MethodName := ⟨RX9, "hand", "(II)I"⟩
abbrev cX9_handed : ByteArray := prog_1_method_29_code
def yX9_handed : MethodName := ⟨RX9, "handed", "(I)I"⟩
abbrev cX9_blocks : ByteArray := prog_1_method_30_code
def yX9_blocks : MethodName := ⟨RX9, "blocks", "()I"⟩
abbrev cX9_blocking : ByteArray := prog_1_method_31_code
def yX9_blocking : MethodName := ⟨RX9, "blocking", "()I"⟩
abbrev cX9_mended : ByteArray := prog_1_method_32_code
def yX9_mended : MethodName := ⟨RX9, "mended", "(I)I"⟩
abbrev cX9_known : ByteArray := prog_1_method_33_code
def yX9_known : MethodName := ⟨RX9, "known", "()I"⟩
abbrev cX9_image : ByteArray := prog_1_method_34_code
def yX9_image : MethodName := ⟨RX9, "image", "()I"⟩
abbrev cX9_back : ByteArray := prog_1_method_35_code
def yX9_back : MethodName := ⟨RX9, "back", "()I"⟩
abbrev cX9_count : ByteArray := prog_1_method_36_code
def yX9_count : MethodName := ⟨RX9, "count", "(I)I"⟩
abbrev cX9_isSide : ByteArray := prog_1_method_37_code
def yX9_isSide : MethodName := ⟨RX9, "isSide", "(I)Z"⟩
abbrev cX9_isCost : ByteArray := prog_1_method_38_code
def yX9_isCost : MethodName := ⟨RX9, "isCost", "(I)Z"⟩
abbrev cX9_isOne : ByteArray := prog_1_method_39_code
def yX9_isOne : MethodName := ⟨RX9, "isOne", "(I)Z"⟩
abbrev cX9_canStir : ByteArray := prog_1_method_40_code
def yX9_canStir : MethodName := ⟨RX9, "canStir", "(III)Z"⟩
abbrev cX9_orNot : ByteArray := prog_1_method_41_code
def yX9_orNot : MethodName := ⟨RX9, "orNot", "(I)I"⟩
abbrev cX9_settle : ByteArray := prog_1_method_42_code
def yX9_settle : MethodName := ⟨RX9, "settle", "()V"⟩
abbrev cX9_printed : ByteArray := prog_1_method_43_code
def yX9_printed : MethodName := ⟨RX9, "printed", "(LMatchLattice$Pairing;I)I"⟩
abbrev cX9_mend : ByteArray := prog_1_method_44_code
def yX9_mend : MethodName := ⟨RX9, "mend", "()I"⟩
abbrev cX9_leftsAlone : ByteArray := prog_1_method_45_code
def yX9_leftsAlone : MethodName := ⟨RX9, "leftsAlone", "()I"⟩
def RX10 : String := "MatchLatticeModel"
def TX10 : u_T := fun k => match k with
  | 0 => ("MatchLatticeModel", "n", "I", false)
  | 1 => ("MatchLatticeModel", "keptN", "I", false)
  | 2 => ("MatchLatticeModel", "list", "[I", true)
  | 3 => ("MatchLatticeModel", "place", "[I", true)
  | 4 => ("MatchLatticeModel", "keptList", "[I", true)
  | 5 => ("MatchLatticeModel", "mind", "[I", true)
  | 6 => ("MatchLatticeModel", "undone", "[I", true)
  | 7 => ("MatchLatticeModel", "again", "[I", true)
  | 8 => ("MatchLatticeModel", "undos", "I", false)
  | 9 => ("MatchLatticeModel", "redos", "I", false)
  | 10 => ("MatchLatticeModel", "tape", "[I", true)
  | 11 => ("MatchLatticeModel", "hand", "[I", true)
  | 12 => ("MatchLatticeModel", "keptHand", "[I", true)
  | 13 => ("MatchLatticeModel", "mended", "[I", true)
  | 14 => ("MatchLatticeModel", "letters", "I", false)
  | 15 => ("MatchLatticeModel", "at", "I", false)
  | 16 => ("MatchLatticeModel", "fault", "I", false)
  | 17 => ("MatchLatticeModel", "asked", "[I", true)
  | 18 => ("MatchLatticeModel", "asks", "[I", true)
  | 19 => ("MatchLatticeModel", "had", "[I", true)
  | 20 => ("MatchLatticeModel", "bestOf", "[I", true)
  | 21 => ("MatchLatticeModel", "match", "[I", true)
  | 22 => ("MatchLatticeModel", "other", "[I", true)
  | 23 => ("MatchLatticeModel", "third", "[I", true)
  | 24 => ("MatchLatticeModel", "askings", "I", false)
  | 25 => ("MatchLatticeModel", "pairs", "[I", true)
  | 26 => ("MatchLatticeModel", "many", "[I", true)
  | 27 => ("MatchLatticeModel", "ahead", "[I", true)
  | 28 => ("MatchLatticeModel", "depth", "[I", true)
  | 29 => ("MatchLatticeModel", "next", "[I", true)
  | 30 => ("MatchLatticeModel", "cycle", "[I", true)
  | 31 => ("MatchLatticeModel", "turns", "I", false)
  | 32 => ("MatchLatticeModel", "cycleMany", "I", false)
  | 33 => ("MatchLatticeModel", "closed", "[I", true)
  | 34 => ("MatchLatticeModel", "matches", "I", false)
  | 35 => ("MatchLatticeModel", "isKnown", "Z", false)
  | 36 => ("MatchLatticeModel", "liePlace", "I", false)
  | _ => ("MatchLatticeModel", "lieMany", "I", false)
def tyX10 : Nat → FieldType := fun k => match k with
  | 0 => .int
  | 1 => .int
  | 2 => .array .int
  | 3 => .array .int
  | 4 => .array .int
  | 5 => .array .int
  | 6 => .array .int
  | 7 => .array .int
  | 8 => .int
  | 9 => .int
  | 10 => .array .int
  | 11 => .array .int
  | 12 => .array .int
  | 13 => .array .int
  | 14 => .int
  | 15 => .int
  | 16 => .int
  | 17 => .array .int
  | 18 => .array .int
  | 19 => .array .int
  | 20 => .array .int
  | 21 => .array .int
  | 22 => .array .int
  | 23 => .array .int
  | 24 => .int
  | 25 => .array .int
  | 26 => .array .int
  | 27 => .array .int
  | 28 => .array .int
  | 29 => .array .int
  | 30 => .array .int
  | 31 => .int
  | 32 => .int
  | 33 => .array .int
  | 34 => .int
  | 35 => .boolean
  | 36 => .int
  | _ => .int
abbrev wsX100 : List Cond := u_ws RX10 TX10 38
theorem nmX10 : ∀ a, a < 38 → ∀ b, b < 38 → a ≠ b → (TX10 a).2.1 ≠ (TX10 b).2.1 := by decide +kernel
theorem tyX10_ok : ∀ k, k < 38 → parseFieldDescriptor (TX10 k).2.2.1 = some (tyX10 k) := by decide +kernel
abbrev cX10_init : ByteArray := prog_12_method_1_code
def yX10_init : MethodName := ⟨RX10, "<init>", "()V"⟩
abbrev cX10_isIn : ByteArray := prog_12_method_2_code
def yX10_isIn : MethodName := ⟨RX10, "isIn", "(III)Z"⟩
abbrev cX10_isOne : ByteArray := prog_12_method_3_code
def yX10_isOne : MethodName := ⟨RX10, "isOne", "(I)Z"⟩
abbrev cX10_has : ByteArray := prog_12_method_4_code
def yX10_has : MethodName := ⟨RX10, "has", "(II)Z"⟩
abbrev cX10_at : ByteArray := prog_12_method_5_code
def yX10_at : MethodName := ⟨RX10, "at", "(III)I"⟩
abbrev cX10_copies : ByteArray := prog_12_method_6_code
def yX10_copies : MethodName := ⟨RX10, "copies", "([II[III)V"⟩
abbrev cX10_begins : ByteArray := prog_12_method_7_code
def yX10_begins : MethodName := ⟨RX10, "begins", "()V"⟩
abbrev cX10_places : ByteArray := prog_12_method_8_code
def yX10_places : MethodName := ⟨RX10, "places", "()V"⟩
abbrev cX10_placeOf : ByteArray := prog_12_method_9_code
def yX10_placeOf : MethodName := ⟨RX10, "placeOf", "(III)I"⟩
abbrev cX10_rather : ByteArray := prog_12_method_10_code
def yX10_rather : MethodName := ⟨RX10, "rather", "(IIII)Z"⟩
abbrev cX10_size : ByteArray := prog_12_method_11_code
def yX10_size : MethodName := ⟨RX10, "size", "(I)I"⟩
abbrev cX10_feed : ByteArray := prog_12_method_12_code
def yX10_feed : MethodName := ⟨RX10, "feed", "(I)I"⟩
abbrev cX10_sees : ByteArray := prog_12_method_13_code
def yX10_sees : MethodName := ⟨RX10, "sees", "(II)Z"⟩
abbrev cX10_takes : ByteArray := prog_12_method_14_code
def yX10_takes : MethodName := ⟨RX10, "takes", "(I)Z"⟩
abbrev cX10_figure : ByteArray := prog_12_method_15_code
def yX10_figure : MethodName := ⟨RX10, "figure", "(I)I"⟩
abbrev cX10_line : ByteArray := prog_12_method_16_code
def yX10_line : MethodName := ⟨RX10, "line", "()V"⟩
abbrev cX10_changes : ByteArray := prog_12_method_17_code
def yX10_changes : MethodName := ⟨RX10, "changes", "()V"⟩
abbrev cX10_lists : ByteArray := prog_12_method_18_code
def yX10_lists : MethodName := ⟨RX10, "lists", "()I"⟩
abbrev cX10_list : ByteArray := prog_12_method_19_code
def yX10_list : MethodName := ⟨RX10, "list", "(III)I"⟩
abbrev cX10_mayStir : ByteArray := prog_12_method_20_code
def yX10_mayStir : MethodName := ⟨RX10, "mayStir", "(III)Z"⟩
abbrev cX10_stirs : ByteArray := prog_12_method_21_code
def yX10_stirs : MethodName := ⟨RX10, "stirs", "([IIII)V"⟩
abbrev cX10_stir : ByteArray := prog_12_method_22_code
def yX10_stir : MethodName := ⟨RX10, "stir", "(III)I"⟩
abbrev cX10_stirred : ByteArray := prog_12_method_23_code
def yX10_stirred : MethodName := ⟨RX10, "stirred", "(III)I"⟩
abbrev cX10_undo : ByteArray := prog_12_method_24_code
def yX10_undo : MethodName := ⟨RX10, "undo", "()I"⟩
abbrev cX10_redo : ByteArray := prog_12_method_25_code
def yX10_redo : MethodName := ⟨RX10, "redo", "()I"⟩
abbrev cX10_asks : ByteArray := prog_12_method_26_code
def yX10_asks : MethodName := ⟨RX10, "asks", "(I)V"⟩
abbrev cX10_firstAlone : ByteArray := prog_12_method_27_code
def yX10_firstAlone : MethodName := ⟨RX10, "firstAlone", "()I"⟩
abbrev cX10_bests : ByteArray := prog_12_method_28_code
def yX10_bests : MethodName := ⟨RX10, "bests", "(I[I)V"⟩
abbrev cX10_leftOf : ByteArray := prog_12_method_29_code
def yX10_leftOf : MethodName := ⟨RX10, "leftOf", "([II)I"⟩
abbrev cX10_best : ByteArray := prog_12_method_30_code
def yX10_best : MethodName := ⟨RX10, "best", "(III)I"⟩
abbrev cX10_asking : ByteArray := prog_12_method_31_code
def yX10_asking : MethodName := ⟨RX10, "asking", "(II)I"⟩
abbrev cX10_nexts : ByteArray := prog_12_method_32_code
def yX10_nexts : MethodName := ⟨RX10, "nexts", "([I)V"⟩
abbrev cX10_isFirst : ByteArray := prog_12_method_33_code
def yX10_isFirst : MethodName := ⟨RX10, "isFirst", "([II)Z"⟩
abbrev cX10_numberOf : ByteArray := prog_12_method_34_code
def yX10_numberOf : MethodName := ⟨RX10, "numberOf", "()I"⟩
abbrev cX10_does : ByteArray := prog_12_method_35_code
def yX10_does : MethodName := ⟨RX10, "does", "(I[I)V"⟩
abbrev cX10_firstExposed : ByteArray := prog_12_method_36_code
def yX10_firstExposed : MethodName := ⟨RX10, "firstExposed", "([II)I"⟩
abbrev cX10_finds : ByteArray := prog_12_method_37_code
def yX10_finds : MethodName := ⟨RX10, "finds", "()V"⟩
abbrev cX10_without : ByteArray := prog_12_method_38_code
def yX10_without : MethodName := ⟨RX10, "without", "(I)V"⟩
abbrev cX10_knows : ByteArray := prog_12_method_39_code
def yX10_knows : MethodName := ⟨RX10, "knows", "()V"⟩
abbrev cX10_rounds : ByteArray := prog_12_method_40_code
def yX10_rounds : MethodName := ⟨RX10, "rounds", "(I)I"⟩
abbrev cX10_pair : ByteArray := prog_12_method_41_code
def yX10_pair : MethodName := ⟨RX10, "pair", "(II)I"⟩
abbrev cX10_ahead : ByteArray := prog_12_method_42_code
def yX10_ahead : MethodName := ⟨RX10, "ahead", "(I)I"⟩
abbrev cX10_gain : ByteArray := prog_12_method_43_code
def yX10_gain : MethodName := ⟨RX10, "gain", "(I)I"⟩
abbrev cX10_of : ByteArray := prog_12_method_44_code
def yX10_of : MethodName := ⟨RX10, "of", "(II)I"⟩
abbrev cX10_isMatch : ByteArray := prog_12_method_45_code
def yX10_isMatch : MethodName := ⟨RX10, "isMatch", "(I)Z"⟩
abbrev cX10_makes : ByteArray := prog_12_method_46_code
def yX10_makes : MethodName := ⟨RX10, "makes", "(I[I)V"⟩
abbrev cX10_isLike : ByteArray := prog_12_method_47_code
def yX10_isLike : MethodName := ⟨RX10, "isLike", "([I[I)Z"⟩
abbrev cX10_numberOf_ : ByteArray := prog_12_method_48_code
def yX10_numberOf_ : MethodName := ⟨RX10, "numberOf", "([I)I"⟩
abbrev cX10_exposed : ByteArray := prog_12_method_49_code
def yX10_exposed : MethodName := ⟨RX10, "exposed", "(I)I"⟩
abbrev cX10_match : ByteArray := prog_12_method_50_code
def yX10_match : MethodName := ⟨RX10, "match", "(I)I"⟩
abbrev cX10_has_ : ByteArray := prog_12_method_51_code
def yX10_has_ : MethodName := ⟨RX10, "has", "(III)I"⟩
abbrev cX10_costOf : ByteArray := prog_12_method_52_code
def yX10_costOf : MethodName := ⟨RX10, "costOf", "(II)I"⟩
abbrev cX10_cost : ByteArray := prog_12_method_53_code
def yX10_cost : MethodName := ⟨RX10, "cost", "(II)I"⟩
abbrev cX10_pick : ByteArray := prog_12_method_54_code
def yX10_pick : MethodName := ⟨RX10, "pick", "(I)I"⟩
abbrev cX10_most : ByteArray := prog_12_method_55_code
def yX10_most : MethodName := ⟨RX10, "most", "()I"⟩
abbrev cX10_either : ByteArray := prog_12_method_56_code
def yX10_either : MethodName := ⟨RX10, "either", "(III)I"⟩
abbrev cX10_middle : ByteArray := prog_12_method_57_code
def yX10_middle : MethodName := ⟨RX10, "middle", "(III)I"⟩
abbrev cX10_may : ByteArray := prog_12_method_58_code
def yX10_may : MethodName := ⟨RX10, "may", "(II)I"⟩
abbrev cX10_fixed : ByteArray := prog_12_method_59_code
def yX10_fixed : MethodName := ⟨RX10, "fixed", "()I"⟩
abbrev cX10_lies : ByteArray := prog_12_method_60_code
def yX10_lies : MethodName := ⟨RX10, "lies", "(II)V"⟩
abbrev cX10_swaps : ByteArray := prog_12_method_61_code
def yX10_swaps : MethodName := ⟨RX10, "swaps", "(II)V"⟩
abbrev cX10_lie : ByteArray := prog_12_method_62_code
def yX10_lie : MethodName := ⟨RX10, "lie", "(II)I"⟩
abbrev cX10_text : ByteArray := prog_12_method_63_code
def yX10_text : MethodName := ⟨RX10, "text", "(II)I"⟩
abbrev cX10_handLeft : ByteArray := prog_12_method_64_code
def yX10_handLeft : MethodName := ⟨RX10, "handLeft", "([II)I"⟩
abbrev cX10_gives : ByteArray := prog_12_method_65_code
def yX10_gives : MethodName := ⟨RX10, "gives", "([III)V"⟩
abbrev cX10_hand : ByteArray := prog_12_method_66_code
def yX10_hand : MethodName := ⟨RX10, "hand", "(II)I"⟩
abbrev cX10_handed : ByteArray := prog_12_method_67_code
def yX10_handed : MethodName := ⟨RX10, "handed", "(I)I"⟩
abbrev cX10_blocks : ByteArray := prog_12_method_68_code
def yX10_blocks : MethodName := ⟨RX10, "blocks", "([III)Z"⟩
abbrev cX10_firstBlocking : ByteArray := prog_12_method_69_code
def yX10_firstBlocking : MethodName := ⟨RX10, "firstBlocking", "([I)I"⟩
abbrev cX10_blocks_ : ByteArray := prog_12_method_70_code
def yX10_blocks_ : MethodName := ⟨RX10, "blocks", "()I"⟩
abbrev cX10_blocking : ByteArray := prog_12_method_71_code
def yX10_blocking : MethodName := ⟨RX10, "blocking", "()I"⟩
abbrev cX10_mended : ByteArray := prog_12_method_72_code
def yX10_mended : MethodName := ⟨RX10, "mended", "(I)I"⟩
abbrev cX10_known : ByteArray := prog_12_method_73_code
def yX10_known : MethodName := ⟨RX10, "known", "()I"⟩
abbrev cX10_image : ByteArray := prog_12_method_74_code
def yX10_image : MethodName := ⟨RX10, "image", "()I"⟩
abbrev cX10_back : ByteArray := prog_12_method_75_code
def yX10_back : MethodName := ⟨RX10, "back", "()I"⟩
abbrev cX10_count : ByteArray := prog_12_method_76_code
def yX10_count : MethodName := ⟨RX10, "count", "(I)I"⟩
def RJ9 : String := "java/lang/Math"
abbrev cJ9_abs_0f7a4 : ByteArray := prog_13_method_59_code
def yJ9_abs_0f7a4 : MethodName := ⟨RJ9, "abs", "(I)I"⟩
abbrev cJ9_max_7cf53 : ByteArray := prog_13_method_65_code
def yJ9_max_7cf53 : MethodName := ⟨RJ9, "max", "(II)I"⟩
abbrev cJ9_min_7cf53 : ByteArray := prog_13_method_69_code
def yJ9_min_7cf53 : MethodName := ⟨RJ9, "min", "(II)I"⟩
abbrev cL_law : ByteArray := code
abbrev vwCl : List vw_C := [(RX0, TX0, 4), (RX1, TX1, 4), (RX2, TX2, 3), (RX3, TX3, 3), (RX4, TX4, 4), (RX5, TX5, 1), (RX6, TX6, 1), (RX7, TX7, 2), (RX8, TX8, 11), (RX9, TX9, 11), (RX10, TX10, 38)]
theorem qm_in {big : List Cond} (ws : List Cond) (ps : List Nat) (hp : ws = ps.filterMap (fun i => big[i]?)) : ∀ w ∈ ws, w ∈ big := by
  intro w hw
  rw [hp] at hw
  obtain ⟨i, -, hi⟩ := List.mem_filterMap.mp hw
  exact List.mem_of_getElem? hi
set_option maxRecDepth 20000 in
theorem inX0 : ∀ w ∈ wsX00, w ∈ lw_tbl := qm_in _ [172, 174, 176, 178] (by decide +kernel)
set_option maxRecDepth 20000 in
theorem inX1 : ∀ w ∈ wsX10, w ∈ lw_tbl := qm_in _ [135, 137, 139, 141] (by decide +kernel)
set_option maxRecDepth 20000 in
theorem inX2 : ∀ w ∈ wsX20, w ∈ lw_tbl := qm_in _ [263, 265, 267] (by decide +kernel)
set_option maxRecDepth 20000 in
theorem inX3 : ∀ w ∈ wsX30, w ∈ lw_tbl := qm_in _ [116, 118, 120] (by decide +kernel)
set_option maxRecDepth 20000 in
theorem inX4 : ∀ w ∈ wsX40, w ∈ lw_tbl := qm_in _ [239, 241, 243, 245] (by decide +kernel)
set_option maxRecDepth 20000 in
theorem inX5 : ∀ w ∈ wsX50, w ∈ lw_tbl := qm_in _ [163] (by decide +kernel)
set_option maxRecDepth 20000 in
theorem inX6 : ∀ w ∈ wsX60, w ∈ lw_tbl := qm_in _ [94] (by decide +kernel)
set_option maxRecDepth 20000 in
theorem inX7 : ∀ w ∈ wsX70, w ∈ lw_tbl := qm_in _ [100, 102] (by decide +kernel)
set_option maxRecDepth 20000 in
theorem inX8 : ∀ w ∈ wsX80, w ∈ lw_tbl := qm_in _ [202, 204, 206, 208, 210, 212, 214, 216, 218, 220, 222] (by decide +kernel)
set_option maxRecDepth 20000 in
theorem inX9 : ∀ w ∈ wsX90, w ∈ lw_tbl := qm_in _ [312, 314, 316, 318, 320, 322, 324, 326, 328, 330, 332] (by decide +kernel)
set_option maxRecDepth 20000 in
theorem inX10 : ∀ w ∈ wsX100, w ∈ lw_tbl := qm_in _ [923, 925, 927, 929, 931, 933, 935, 937, 939, 941, 943, 945, 947, 949, 951, 953, 955, 957, 959, 961, 963, 965, 967, 969, 971, 973, 975, 977, 979, 981, 983, 985, 987, 989, 991, 993, 995, 997] (by decide +kernel)

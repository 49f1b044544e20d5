section
-- ===== PART A: goes FIRST, ahead of the names: the tables' words, and 'selects' of the private methods out of them =====
/-- a private method of a class that the tables say can be made, by its rows of tables_1 -/
def lw_okq (q : MethodName × Nat) : Prop := (q.1.cls ≠ "java/lang/invoke/MethodHandle" ∧ q.1.cls ≠ "java/lang/invoke/VarHandle") ∧ Cond.instantiable q.1.cls q.2 ∈ tables_1 ∧ Cond.privateMethod q.1 ∈ tables_1 ∧ Cond.instanceMethod q.1 ∈ tables_1
theorem lw_p0 : lw_okq (⟨"MatchLattice$History", "start", "()I"⟩, 4) := ⟨⟨by decide +kernel, by decide +kernel⟩, List.mem_of_getElem? (i := 64) (by decide +kernel), List.mem_of_getElem? (i := 230) (by decide +kernel), List.mem_of_getElem? (i := 231) (by decide +kernel)⟩
theorem lw_p1 : lw_okq (⟨"MatchLattice$Tape", "readLine", "(ILMatchLattice$Lists;)I"⟩, 2) := ⟨⟨by decide +kernel, by decide +kernel⟩, List.mem_of_getElem? (i := 22) (by decide +kernel), List.mem_of_getElem? (i := 318) (by decide +kernel), List.mem_of_getElem? (i := 319) (by decide +kernel)⟩
theorem lw_p2 : lw_okq (⟨"MatchLattice$Tape", "sideAt", "(I)I"⟩, 2) := ⟨⟨by decide +kernel, by decide +kernel⟩, List.mem_of_getElem? (i := 22) (by decide +kernel), List.mem_of_getElem? (i := 322) (by decide +kernel), List.mem_of_getElem? (i := 323) (by decide +kernel)⟩
theorem lw_p3 : lw_okq (⟨"MatchLattice$Tape", "byteAt", "(I)I"⟩, 2) := ⟨⟨by decide +kernel, by decide +kernel⟩, List.mem_of_getElem? (i := 22) (by decide +kernel), List.mem_of_getElem? (i := 326) (by decide +kernel), List.mem_of_getElem? (i := 327) (by decide +kernel)⟩
theorem lw_p4 : lw_okq (⟨"MatchLattice$Tape", "figureAt", "(II)I"⟩, 2) := ⟨⟨by decide +kernel, by decide +kernel⟩, List.mem_of_getElem? (i := 22) (by decide +kernel), List.mem_of_getElem? (i := 335) (by decide +kernel), List.mem_of_getElem? (i := 336) (by decide +kernel)⟩
theorem lw_p5 : lw_okq (⟨"MatchLattice$Tape", "readFigures", "(ILMatchLattice$Lists;II)I"⟩, 2) := ⟨⟨by decide +kernel, by decide +kernel⟩, List.mem_of_getElem? (i := 22) (by decide +kernel), List.mem_of_getElem? (i := 339) (by decide +kernel), List.mem_of_getElem? (i := 340) (by decide +kernel)⟩
theorem lw_p6 : lw_okq (⟨"MatchLattice", "isOne", "(I)Z"⟩, 11) := ⟨⟨by decide +kernel, by decide +kernel⟩, List.mem_of_getElem? (i := 14) (by decide +kernel), List.mem_of_getElem? (i := 359) (by decide +kernel), List.mem_of_getElem? (i := 360) (by decide +kernel)⟩
theorem lw_p7 : lw_okq (⟨"MatchLattice", "canStir", "(III)Z"⟩, 11) := ⟨⟨by decide +kernel, by decide +kernel⟩, List.mem_of_getElem? (i := 14) (by decide +kernel), List.mem_of_getElem? (i := 371) (by decide +kernel), List.mem_of_getElem? (i := 372) (by decide +kernel)⟩
theorem lw_p8 : lw_okq (⟨"MatchLattice", "settle", "()V"⟩, 11) := ⟨⟨by decide +kernel, by decide +kernel⟩, List.mem_of_getElem? (i := 14) (by decide +kernel), List.mem_of_getElem? (i := 384) (by decide +kernel), List.mem_of_getElem? (i := 385) (by decide +kernel)⟩
theorem lw_p9 : lw_okq (⟨"MatchLattice$Asking", "leastAlone", "(II)I"⟩, 4) := ⟨⟨by decide +kernel, by decide +kernel⟩, List.mem_of_getElem? (i := 85) (by decide +kernel), List.mem_of_getElem? (i := 395) (by decide +kernel), List.mem_of_getElem? (i := 396) (by decide +kernel)⟩
theorem lw_p10 : lw_okq (⟨"MatchLattice$Asking", "ask", "(LMatchLattice$Lists;II)V"⟩, 4) := ⟨⟨by decide +kernel, by decide +kernel⟩, List.mem_of_getElem? (i := 85) (by decide +kernel), List.mem_of_getElem? (i := 407) (by decide +kernel), List.mem_of_getElem? (i := 408) (by decide +kernel)⟩
theorem lw_p11 : lw_okq (⟨"MatchLattice$Turns", "nextOf", "(ILMatchLattice$Lists;)I"⟩, 11) := ⟨⟨by decide +kernel, by decide +kernel⟩, List.mem_of_getElem? (i := 122) (by decide +kernel), List.mem_of_getElem? (i := 450) (by decide +kernel), List.mem_of_getElem? (i := 451) (by decide +kernel)⟩
theorem lw_p12 : lw_okq (⟨"MatchLattice$Turns", "firstLeader", "(I)I"⟩, 11) := ⟨⟨by decide +kernel, by decide +kernel⟩, List.mem_of_getElem? (i := 122) (by decide +kernel), List.mem_of_getElem? (i := 459) (by decide +kernel), List.mem_of_getElem? (i := 460) (by decide +kernel)⟩
theorem lw_p13 : lw_okq (⟨"MatchLattice$Turns", "comesBack", "(II)Z"⟩, 11) := ⟨⟨by decide +kernel, by decide +kernel⟩, List.mem_of_getElem? (i := 122) (by decide +kernel), List.mem_of_getElem? (i := 463) (by decide +kernel), List.mem_of_getElem? (i := 464) (by decide +kernel)⟩
theorem lw_p14 : lw_okq (⟨"MatchLattice$Turns", "keepPairs", "(II)V"⟩, 11) := ⟨⟨by decide +kernel, by decide +kernel⟩, List.mem_of_getElem? (i := 122) (by decide +kernel), List.mem_of_getElem? (i := 468) (by decide +kernel), List.mem_of_getElem? (i := 469) (by decide +kernel)⟩
theorem lw_p15 : lw_okq (⟨"MatchLattice$Turns", "keepNeeds", "(ILMatchLattice$Lists;)V"⟩, 11) := ⟨⟨by decide +kernel, by decide +kernel⟩, List.mem_of_getElem? (i := 122) (by decide +kernel), List.mem_of_getElem? (i := 472) (by decide +kernel), List.mem_of_getElem? (i := 473) (by decide +kernel)⟩
def lw_privs_1 : List (MethodName × Nat) := [(⟨"MatchLattice$History", "start", "()I"⟩, 4), (⟨"MatchLattice$Tape", "readLine", "(ILMatchLattice$Lists;)I"⟩, 2), (⟨"MatchLattice$Tape", "sideAt", "(I)I"⟩, 2), (⟨"MatchLattice$Tape", "byteAt", "(I)I"⟩, 2), (⟨"MatchLattice$Tape", "figureAt", "(II)I"⟩, 2), (⟨"MatchLattice$Tape", "readFigures", "(ILMatchLattice$Lists;II)I"⟩, 2), (⟨"MatchLattice", "isOne", "(I)Z"⟩, 11), (⟨"MatchLattice", "canStir", "(III)Z"⟩, 11), (⟨"MatchLattice", "settle", "()V"⟩, 11), (⟨"MatchLattice$Asking", "leastAlone", "(II)I"⟩, 4), (⟨"MatchLattice$Asking", "ask", "(LMatchLattice$Lists;II)V"⟩, 4), (⟨"MatchLattice$Turns", "nextOf", "(ILMatchLattice$Lists;)I"⟩, 11), (⟨"MatchLattice$Turns", "firstLeader", "(I)I"⟩, 11), (⟨"MatchLattice$Turns", "comesBack", "(II)Z"⟩, 11), (⟨"MatchLattice$Turns", "keepPairs", "(II)V"⟩, 11), (⟨"MatchLattice$Turns", "keepNeeds", "(ILMatchLattice$Lists;)V"⟩, 11)]
theorem lw_r1 : ∀ q ∈ lw_privs_1, lw_okq q := List.forall_mem_cons.mpr ⟨lw_p0, List.forall_mem_cons.mpr ⟨lw_p1, List.forall_mem_cons.mpr ⟨lw_p2, List.forall_mem_cons.mpr ⟨lw_p3, List.forall_mem_cons.mpr ⟨lw_p4, List.forall_mem_cons.mpr ⟨lw_p5, List.forall_mem_cons.mpr ⟨lw_p6, List.forall_mem_cons.mpr ⟨lw_p7, List.forall_mem_cons.mpr ⟨lw_p8, List.forall_mem_cons.mpr ⟨lw_p9, List.forall_mem_cons.mpr ⟨lw_p10, List.forall_mem_cons.mpr ⟨lw_p11, List.forall_mem_cons.mpr ⟨lw_p12, List.forall_mem_cons.mpr ⟨lw_p13, List.forall_mem_cons.mpr ⟨lw_p14, List.forall_mem_cons.mpr ⟨lw_p15, fun _ h => absurd h List.not_mem_nil⟩⟩⟩⟩⟩⟩⟩⟩⟩⟩⟩⟩⟩⟩⟩⟩
theorem lw_p16 : lw_okq (⟨"MatchLattice$Turns", "withNeeds", "(I)I"⟩, 11) := ⟨⟨by decide +kernel, by decide +kernel⟩, List.mem_of_getElem? (i := 122) (by decide +kernel), List.mem_of_getElem? (i := 484) (by decide +kernel), List.mem_of_getElem? (i := 485) (by decide +kernel)⟩
theorem lw_p17 : lw_okq (⟨"MatchLattice$Turns", "following", "(II)I"⟩, 11) := ⟨⟨by decide +kernel, by decide +kernel⟩, List.mem_of_getElem? (i := 122) (by decide +kernel), List.mem_of_getElem? (i := 492) (by decide +kernel), List.mem_of_getElem? (i := 493) (by decide +kernel)⟩
theorem lw_p18 : lw_okq (⟨"MatchLattice$Turns", "depthBehind", "(II)I"⟩, 11) := ⟨⟨by decide +kernel, by decide +kernel⟩, List.mem_of_getElem? (i := 122) (by decide +kernel), List.mem_of_getElem? (i := 500) (by decide +kernel), List.mem_of_getElem? (i := 501) (by decide +kernel)⟩
theorem lw_p19 : lw_okq (⟨"MatchLattice$Turns", "weigh", "(ILMatchLattice$Lists;)I"⟩, 11) := ⟨⟨by decide +kernel, by decide +kernel⟩, List.mem_of_getElem? (i := 122) (by decide +kernel), List.mem_of_getElem? (i := 511) (by decide +kernel), List.mem_of_getElem? (i := 512) (by decide +kernel)⟩
theorem lw_p20 : lw_okq (⟨"MatchLattice$Turns", "markPassed", "(ILMatchLattice$Lists;)V"⟩, 11) := ⟨⟨by decide +kernel, by decide +kernel⟩, List.mem_of_getElem? (i := 122) (by decide +kernel), List.mem_of_getElem? (i := 515) (by decide +kernel), List.mem_of_getElem? (i := 516) (by decide +kernel)⟩
theorem lw_p21 : lw_okq (⟨"MatchLattice$Lists", "unused", "(II)I"⟩, 3) := ⟨⟨by decide +kernel, by decide +kernel⟩, List.mem_of_getElem? (i := 46) (by decide +kernel), List.mem_of_getElem? (i := 719) (by decide +kernel), List.mem_of_getElem? (i := 720) (by decide +kernel)⟩
theorem lw_p22 : lw_okq (⟨"MatchLattice", "mend", "()I"⟩, 11) := ⟨⟨by decide +kernel, by decide +kernel⟩, List.mem_of_getElem? (i := 14) (by decide +kernel), List.mem_of_getElem? (i := 769) (by decide +kernel), List.mem_of_getElem? (i := 770) (by decide +kernel)⟩
theorem lw_p23 : lw_okq (⟨"MatchLattice", "leftsAlone", "()I"⟩, 11) := ⟨⟨by decide +kernel, by decide +kernel⟩, List.mem_of_getElem? (i := 14) (by decide +kernel), List.mem_of_getElem? (i := 808) (by decide +kernel), List.mem_of_getElem? (i := 809) (by decide +kernel)⟩
theorem lw_p24 : lw_okq (⟨"MatchLatticeModel", "begins", "()V"⟩, 38) := ⟨⟨by decide +kernel, by decide +kernel⟩, List.mem_of_getElem? (i := 812) (by decide +kernel), List.mem_of_getElem? (i := 818) (by decide +kernel), List.mem_of_getElem? (i := 819) (by decide +kernel)⟩
theorem lw_p25 : lw_okq (⟨"MatchLatticeModel", "places", "()V"⟩, 38) := ⟨⟨by decide +kernel, by decide +kernel⟩, List.mem_of_getElem? (i := 812) (by decide +kernel), List.mem_of_getElem? (i := 822) (by decide +kernel), List.mem_of_getElem? (i := 823) (by decide +kernel)⟩
theorem lw_p26 : lw_okq (⟨"MatchLatticeModel", "line", "()V"⟩, 38) := ⟨⟨by decide +kernel, by decide +kernel⟩, List.mem_of_getElem? (i := 812) (by decide +kernel), List.mem_of_getElem? (i := 959) (by decide +kernel), List.mem_of_getElem? (i := 960) (by decide +kernel)⟩
theorem lw_p27 : lw_okq (⟨"MatchLatticeModel", "sees", "(II)Z"⟩, 38) := ⟨⟨by decide +kernel, by decide +kernel⟩, List.mem_of_getElem? (i := 812) (by decide +kernel), List.mem_of_getElem? (i := 963) (by decide +kernel), List.mem_of_getElem? (i := 964) (by decide +kernel)⟩
theorem lw_p28 : lw_okq (⟨"MatchLatticeModel", "takes", "(I)Z"⟩, 38) := ⟨⟨by decide +kernel, by decide +kernel⟩, List.mem_of_getElem? (i := 812) (by decide +kernel), List.mem_of_getElem? (i := 967) (by decide +kernel), List.mem_of_getElem? (i := 968) (by decide +kernel)⟩
theorem lw_p29 : lw_okq (⟨"MatchLatticeModel", "figure", "(I)I"⟩, 38) := ⟨⟨by decide +kernel, by decide +kernel⟩, List.mem_of_getElem? (i := 812) (by decide +kernel), List.mem_of_getElem? (i := 971) (by decide +kernel), List.mem_of_getElem? (i := 972) (by decide +kernel)⟩
theorem lw_p30 : lw_okq (⟨"MatchLatticeModel", "changes", "()V"⟩, 38) := ⟨⟨by decide +kernel, by decide +kernel⟩, List.mem_of_getElem? (i := 812) (by decide +kernel), List.mem_of_getElem? (i := 981) (by decide +kernel), List.mem_of_getElem? (i := 982) (by decide +kernel)⟩
theorem lw_p31 : lw_okq (⟨"MatchLatticeModel", "isOne", "(I)Z"⟩, 38) := ⟨⟨by decide +kernel, by decide +kernel⟩, List.mem_of_getElem? (i := 812) (by decide +kernel), List.mem_of_getElem? (i := 989) (by decide +kernel), List.mem_of_getElem? (i := 990) (by decide +kernel)⟩
def lw_privs_2 : List (MethodName × Nat) := [(⟨"MatchLattice$Turns", "withNeeds", "(I)I"⟩, 11), (⟨"MatchLattice$Turns", "following", "(II)I"⟩, 11), (⟨"MatchLattice$Turns", "depthBehind", "(II)I"⟩, 11), (⟨"MatchLattice$Turns", "weigh", "(ILMatchLattice$Lists;)I"⟩, 11), (⟨"MatchLattice$Turns", "markPassed", "(ILMatchLattice$Lists;)V"⟩, 11), (⟨"MatchLattice$Lists", "unused", "(II)I"⟩, 3), (⟨"MatchLattice", "mend", "()I"⟩, 11), (⟨"MatchLattice", "leftsAlone", "()I"⟩, 11), (⟨"MatchLatticeModel", "begins", "()V"⟩, 38), (⟨"MatchLatticeModel", "places", "()V"⟩, 38), (⟨"MatchLatticeModel", "line", "()V"⟩, 38), (⟨"MatchLatticeModel", "sees", "(II)Z"⟩, 38), (⟨"MatchLatticeModel", "takes", "(I)Z"⟩, 38), (⟨"MatchLatticeModel", "figure", "(I)I"⟩, 38), (⟨"MatchLatticeModel", "changes", "()V"⟩, 38), (⟨"MatchLatticeModel", "isOne", "(I)Z"⟩, 38)]
theorem lw_r2 : ∀ q ∈ lw_privs_2, lw_okq q := List.forall_mem_cons.mpr ⟨lw_p16, List.forall_mem_cons.mpr ⟨lw_p17, List.forall_mem_cons.mpr ⟨lw_p18, List.forall_mem_cons.mpr ⟨lw_p19, List.forall_mem_cons.mpr ⟨lw_p20, List.forall_mem_cons.mpr ⟨lw_p21, List.forall_mem_cons.mpr ⟨lw_p22, List.forall_mem_cons.mpr ⟨lw_p23, List.forall_mem_cons.mpr ⟨lw_p24, List.forall_mem_cons.mpr ⟨lw_p25, List.forall_mem_cons.mpr ⟨lw_p26, List.forall_mem_cons.mpr ⟨lw_p27, List.forall_mem_cons.mpr ⟨lw_p28, List.forall_mem_cons.mpr ⟨lw_p29, List.forall_mem_cons.mpr ⟨lw_p30, List.forall_mem_cons.mpr ⟨lw_p31, fun _ h => absurd h List.not_mem_nil⟩⟩⟩⟩⟩⟩⟩⟩⟩⟩⟩⟩⟩⟩⟩⟩
theorem lw_p32 : lw_okq (⟨"MatchLatticeModel", "mayStir", "(III)Z"⟩, 38) := ⟨⟨by decide +kernel, by decide +kernel⟩, List.mem_of_getElem? (i := 812) (by decide +kernel), List.mem_of_getElem? (i := 997) (by decide +kernel), List.mem_of_getElem? (i := 998) (by decide +kernel)⟩
theorem lw_p33 : lw_okq (⟨"MatchLatticeModel", "stirs", "([IIII)V"⟩, 38) := ⟨⟨by decide +kernel, by decide +kernel⟩, List.mem_of_getElem? (i := 812) (by decide +kernel), List.mem_of_getElem? (i := 1001) (by decide +kernel), List.mem_of_getElem? (i := 1002) (by decide +kernel)⟩
theorem lw_p34 : lw_okq (⟨"MatchLatticeModel", "knows", "()V"⟩, 38) := ⟨⟨by decide +kernel, by decide +kernel⟩, List.mem_of_getElem? (i := 812) (by decide +kernel), List.mem_of_getElem? (i := 1009) (by decide +kernel), List.mem_of_getElem? (i := 1010) (by decide +kernel)⟩
theorem lw_p35 : lw_okq (⟨"MatchLatticeModel", "bests", "(I[I)V"⟩, 38) := ⟨⟨by decide +kernel, by decide +kernel⟩, List.mem_of_getElem? (i := 812) (by decide +kernel), List.mem_of_getElem? (i := 1013) (by decide +kernel), List.mem_of_getElem? (i := 1014) (by decide +kernel)⟩
theorem lw_p36 : lw_okq (⟨"MatchLatticeModel", "asks", "(I)V"⟩, 38) := ⟨⟨by decide +kernel, by decide +kernel⟩, List.mem_of_getElem? (i := 812) (by decide +kernel), List.mem_of_getElem? (i := 1017) (by decide +kernel), List.mem_of_getElem? (i := 1018) (by decide +kernel)⟩
theorem lw_p37 : lw_okq (⟨"MatchLatticeModel", "rather", "(IIII)Z"⟩, 38) := ⟨⟨by decide +kernel, by decide +kernel⟩, List.mem_of_getElem? (i := 812) (by decide +kernel), List.mem_of_getElem? (i := 1021) (by decide +kernel), List.mem_of_getElem? (i := 1022) (by decide +kernel)⟩
theorem lw_p38 : lw_okq (⟨"MatchLatticeModel", "placeOf", "(III)I"⟩, 38) := ⟨⟨by decide +kernel, by decide +kernel⟩, List.mem_of_getElem? (i := 812) (by decide +kernel), List.mem_of_getElem? (i := 1025) (by decide +kernel), List.mem_of_getElem? (i := 1026) (by decide +kernel)⟩
theorem lw_p39 : lw_okq (⟨"MatchLatticeModel", "firstAlone", "()I"⟩, 38) := ⟨⟨by decide +kernel, by decide +kernel⟩, List.mem_of_getElem? (i := 812) (by decide +kernel), List.mem_of_getElem? (i := 1029) (by decide +kernel), List.mem_of_getElem? (i := 1030) (by decide +kernel)⟩
theorem lw_p40 : lw_okq (⟨"MatchLatticeModel", "finds", "()V"⟩, 38) := ⟨⟨by decide +kernel, by decide +kernel⟩, List.mem_of_getElem? (i := 812) (by decide +kernel), List.mem_of_getElem? (i := 1033) (by decide +kernel), List.mem_of_getElem? (i := 1034) (by decide +kernel)⟩
theorem lw_p41 : lw_okq (⟨"MatchLatticeModel", "nexts", "([I)V"⟩, 38) := ⟨⟨by decide +kernel, by decide +kernel⟩, List.mem_of_getElem? (i := 812) (by decide +kernel), List.mem_of_getElem? (i := 1037) (by decide +kernel), List.mem_of_getElem? (i := 1038) (by decide +kernel)⟩
theorem lw_p42 : lw_okq (⟨"MatchLatticeModel", "leftOf", "([II)I"⟩, 38) := ⟨⟨by decide +kernel, by decide +kernel⟩, List.mem_of_getElem? (i := 812) (by decide +kernel), List.mem_of_getElem? (i := 1041) (by decide +kernel), List.mem_of_getElem? (i := 1042) (by decide +kernel)⟩
theorem lw_p43 : lw_okq (⟨"MatchLatticeModel", "isFirst", "([II)Z"⟩, 38) := ⟨⟨by decide +kernel, by decide +kernel⟩, List.mem_of_getElem? (i := 812) (by decide +kernel), List.mem_of_getElem? (i := 1045) (by decide +kernel), List.mem_of_getElem? (i := 1046) (by decide +kernel)⟩
theorem lw_p44 : lw_okq (⟨"MatchLatticeModel", "does", "(I[I)V"⟩, 38) := ⟨⟨by decide +kernel, by decide +kernel⟩, List.mem_of_getElem? (i := 812) (by decide +kernel), List.mem_of_getElem? (i := 1049) (by decide +kernel), List.mem_of_getElem? (i := 1050) (by decide +kernel)⟩
theorem lw_p45 : lw_okq (⟨"MatchLatticeModel", "without", "(I)V"⟩, 38) := ⟨⟨by decide +kernel, by decide +kernel⟩, List.mem_of_getElem? (i := 812) (by decide +kernel), List.mem_of_getElem? (i := 1053) (by decide +kernel), List.mem_of_getElem? (i := 1054) (by decide +kernel)⟩
theorem lw_p46 : lw_okq (⟨"MatchLatticeModel", "firstExposed", "([II)I"⟩, 38) := ⟨⟨by decide +kernel, by decide +kernel⟩, List.mem_of_getElem? (i := 812) (by decide +kernel), List.mem_of_getElem? (i := 1057) (by decide +kernel), List.mem_of_getElem? (i := 1058) (by decide +kernel)⟩
theorem lw_p47 : lw_okq (⟨"MatchLatticeModel", "numberOf", "()I"⟩, 38) := ⟨⟨by decide +kernel, by decide +kernel⟩, List.mem_of_getElem? (i := 812) (by decide +kernel), List.mem_of_getElem? (i := 1061) (by decide +kernel), List.mem_of_getElem? (i := 1062) (by decide +kernel)⟩
def lw_privs_3 : List (MethodName × Nat) := [(⟨"MatchLatticeModel", "mayStir", "(III)Z"⟩, 38), (⟨"MatchLatticeModel", "stirs", "([IIII)V"⟩, 38), (⟨"MatchLatticeModel", "knows", "()V"⟩, 38), (⟨"MatchLatticeModel", "bests", "(I[I)V"⟩, 38), (⟨"MatchLatticeModel", "asks", "(I)V"⟩, 38), (⟨"MatchLatticeModel", "rather", "(IIII)Z"⟩, 38), (⟨"MatchLatticeModel", "placeOf", "(III)I"⟩, 38), (⟨"MatchLatticeModel", "firstAlone", "()I"⟩, 38), (⟨"MatchLatticeModel", "finds", "()V"⟩, 38), (⟨"MatchLatticeModel", "nexts", "([I)V"⟩, 38), (⟨"MatchLatticeModel", "leftOf", "([II)I"⟩, 38), (⟨"MatchLatticeModel", "isFirst", "([II)Z"⟩, 38), (⟨"MatchLatticeModel", "does", "(I[I)V"⟩, 38), (⟨"MatchLatticeModel", "without", "(I)V"⟩, 38), (⟨"MatchLatticeModel", "firstExposed", "([II)I"⟩, 38), (⟨"MatchLatticeModel", "numberOf", "()I"⟩, 38)]
theorem lw_r3 : ∀ q ∈ lw_privs_3, lw_okq q := List.forall_mem_cons.mpr ⟨lw_p32, List.forall_mem_cons.mpr ⟨lw_p33, List.forall_mem_cons.mpr ⟨lw_p34, List.forall_mem_cons.mpr ⟨lw_p35, List.forall_mem_cons.mpr ⟨lw_p36, List.forall_mem_cons.mpr ⟨lw_p37, List.forall_mem_cons.mpr ⟨lw_p38, List.forall_mem_cons.mpr ⟨lw_p39, List.forall_mem_cons.mpr ⟨lw_p40, List.forall_mem_cons.mpr ⟨lw_p41, List.forall_mem_cons.mpr ⟨lw_p42, List.forall_mem_cons.mpr ⟨lw_p43, List.forall_mem_cons.mpr ⟨lw_p44, List.forall_mem_cons.mpr ⟨lw_p45, List.forall_mem_cons.mpr ⟨lw_p46, List.forall_mem_cons.mpr ⟨lw_p47, fun _ h => absurd h List.not_mem_nil⟩⟩⟩⟩⟩⟩⟩⟩⟩⟩⟩⟩⟩⟩⟩⟩
theorem lw_p48 : lw_okq (⟨"MatchLatticeModel", "gain", "(I)I"⟩, 38) := ⟨⟨by decide +kernel, by decide +kernel⟩, List.mem_of_getElem? (i := 812) (by decide +kernel), List.mem_of_getElem? (i := 1098) (by decide +kernel), List.mem_of_getElem? (i := 1099) (by decide +kernel)⟩
theorem lw_p49 : lw_okq (⟨"MatchLatticeModel", "isMatch", "(I)Z"⟩, 38) := ⟨⟨by decide +kernel, by decide +kernel⟩, List.mem_of_getElem? (i := 812) (by decide +kernel), List.mem_of_getElem? (i := 1106) (by decide +kernel), List.mem_of_getElem? (i := 1107) (by decide +kernel)⟩
theorem lw_p50 : lw_okq (⟨"MatchLatticeModel", "makes", "(I[I)V"⟩, 38) := ⟨⟨by decide +kernel, by decide +kernel⟩, List.mem_of_getElem? (i := 812) (by decide +kernel), List.mem_of_getElem? (i := 1110) (by decide +kernel), List.mem_of_getElem? (i := 1111) (by decide +kernel)⟩
theorem lw_p51 : lw_okq (⟨"MatchLatticeModel", "costOf", "(II)I"⟩, 38) := ⟨⟨by decide +kernel, by decide +kernel⟩, List.mem_of_getElem? (i := 812) (by decide +kernel), List.mem_of_getElem? (i := 1126) (by decide +kernel), List.mem_of_getElem? (i := 1127) (by decide +kernel)⟩
theorem lw_p52 : lw_okq (⟨"MatchLatticeModel", "numberOf", "([I)I"⟩, 38) := ⟨⟨by decide +kernel, by decide +kernel⟩, List.mem_of_getElem? (i := 812) (by decide +kernel), List.mem_of_getElem? (i := 1143) (by decide +kernel), List.mem_of_getElem? (i := 1144) (by decide +kernel)⟩
theorem lw_p53 : lw_okq (⟨"MatchLatticeModel", "isLike", "([I[I)Z"⟩, 38) := ⟨⟨by decide +kernel, by decide +kernel⟩, List.mem_of_getElem? (i := 812) (by decide +kernel), List.mem_of_getElem? (i := 1147) (by decide +kernel), List.mem_of_getElem? (i := 1148) (by decide +kernel)⟩
theorem lw_p54 : lw_okq (⟨"MatchLatticeModel", "lies", "(II)V"⟩, 38) := ⟨⟨by decide +kernel, by decide +kernel⟩, List.mem_of_getElem? (i := 812) (by decide +kernel), List.mem_of_getElem? (i := 1171) (by decide +kernel), List.mem_of_getElem? (i := 1172) (by decide +kernel)⟩
theorem lw_p55 : lw_okq (⟨"MatchLatticeModel", "swaps", "(II)V"⟩, 38) := ⟨⟨by decide +kernel, by decide +kernel⟩, List.mem_of_getElem? (i := 812) (by decide +kernel), List.mem_of_getElem? (i := 1175) (by decide +kernel), List.mem_of_getElem? (i := 1176) (by decide +kernel)⟩
theorem lw_p56 : lw_okq (⟨"MatchLatticeModel", "gives", "([III)V"⟩, 38) := ⟨⟨by decide +kernel, by decide +kernel⟩, List.mem_of_getElem? (i := 812) (by decide +kernel), List.mem_of_getElem? (i := 1187) (by decide +kernel), List.mem_of_getElem? (i := 1188) (by decide +kernel)⟩
theorem lw_p57 : lw_okq (⟨"MatchLatticeModel", "handLeft", "([II)I"⟩, 38) := ⟨⟨by decide +kernel, by decide +kernel⟩, List.mem_of_getElem? (i := 812) (by decide +kernel), List.mem_of_getElem? (i := 1191) (by decide +kernel), List.mem_of_getElem? (i := 1192) (by decide +kernel)⟩
theorem lw_p58 : lw_okq (⟨"MatchLatticeModel", "firstBlocking", "([I)I"⟩, 38) := ⟨⟨by decide +kernel, by decide +kernel⟩, List.mem_of_getElem? (i := 812) (by decide +kernel), List.mem_of_getElem? (i := 1203) (by decide +kernel), List.mem_of_getElem? (i := 1204) (by decide +kernel)⟩
theorem lw_p59 : lw_okq (⟨"MatchLatticeModel", "blocks", "([III)Z"⟩, 38) := ⟨⟨by decide +kernel, by decide +kernel⟩, List.mem_of_getElem? (i := 812) (by decide +kernel), List.mem_of_getElem? (i := 1207) (by decide +kernel), List.mem_of_getElem? (i := 1208) (by decide +kernel)⟩
def lw_privs_4 : List (MethodName × Nat) := [(⟨"MatchLatticeModel", "gain", "(I)I"⟩, 38), (⟨"MatchLatticeModel", "isMatch", "(I)Z"⟩, 38), (⟨"MatchLatticeModel", "makes", "(I[I)V"⟩, 38), (⟨"MatchLatticeModel", "costOf", "(II)I"⟩, 38), (⟨"MatchLatticeModel", "numberOf", "([I)I"⟩, 38), (⟨"MatchLatticeModel", "isLike", "([I[I)Z"⟩, 38), (⟨"MatchLatticeModel", "lies", "(II)V"⟩, 38), (⟨"MatchLatticeModel", "swaps", "(II)V"⟩, 38), (⟨"MatchLatticeModel", "gives", "([III)V"⟩, 38), (⟨"MatchLatticeModel", "handLeft", "([II)I"⟩, 38), (⟨"MatchLatticeModel", "firstBlocking", "([I)I"⟩, 38), (⟨"MatchLatticeModel", "blocks", "([III)Z"⟩, 38)]
theorem lw_r4 : ∀ q ∈ lw_privs_4, lw_okq q := List.forall_mem_cons.mpr ⟨lw_p48, List.forall_mem_cons.mpr ⟨lw_p49, List.forall_mem_cons.mpr ⟨lw_p50, List.forall_mem_cons.mpr ⟨lw_p51, List.forall_mem_cons.mpr ⟨lw_p52, List.forall_mem_cons.mpr ⟨lw_p53, List.forall_mem_cons.mpr ⟨lw_p54, List.forall_mem_cons.mpr ⟨lw_p55, List.forall_mem_cons.mpr ⟨lw_p56, List.forall_mem_cons.mpr ⟨lw_p57, List.forall_mem_cons.mpr ⟨lw_p58, List.forall_mem_cons.mpr ⟨lw_p59, fun _ h => absurd h List.not_mem_nil⟩⟩⟩⟩⟩⟩⟩⟩⟩⟩⟩⟩
def lw_privs : List (MethodName × Nat) := lw_privs_1 ++ (lw_privs_2 ++ (lw_privs_3 ++ (lw_privs_4)))
def lw_tbl : List Cond := k2_sels lw_privs ++ tables_1
theorem lw_privs_ok : ∀ q ∈ lw_privs, lw_okq q := by
  show ∀ q ∈ lw_privs_1 ++ (lw_privs_2 ++ (lw_privs_3 ++ (lw_privs_4))), lw_okq q
  exact List.forall_mem_append.mpr ⟨lw_r1, List.forall_mem_append.mpr ⟨lw_r2, List.forall_mem_append.mpr ⟨lw_r3, lw_r4⟩⟩⟩
-- ===== the classes and the methods, by their printed names =====
def RX0 : String := "MatchLattice$Asking"
def TX0 : u_T := fun k => match k with
  | 0 => ("MatchLattice$Asking", "outcome", "LMatchLattice$Pairing;", true)
  | 1 => ("MatchLattice$Asking", "askedAlready", "LMatchLattice$Row;", true)
  | 2 => ("MatchLattice$Asking", "told", "LMatchLattice$Row;", true)
  | _ => ("MatchLattice$Asking", "times", "I", false)
def tyX0 : Nat → FieldType := fun k => match k with
  | 0 => .object "MatchLattice$Pairing"
  | 1 => .object "MatchLattice$Row"
  | 2 => .object "MatchLattice$Row"
  | _ => .int
abbrev wsX00 : List Cond := u_ws RX0 TX0 4
theorem nmX0 : ∀ a, a < 4 → ∀ b, b < 4 → a ≠ b → (TX0 a).2.1 ≠ (TX0 b).2.1 := by decide +kernel
theorem tyX0_ok : ∀ k, k < 4 → parseFieldDescriptor (TX0 k).2.2.1 = some (tyX0 k) := by decide +kernel
abbrev cX0_init : ByteArray := prog_2_method_1_code
def yX0_init : MethodName := ⟨RX0, "<init>", "()V"⟩
abbrev cX0_outcome : ByteArray := prog_2_method_2_code
def yX0_outcome : MethodName := ⟨RX0, "outcome", "()LMatchLattice$Pairing;"⟩
abbrev cX0_times : ByteArray := prog_2_method_3_code
def yX0_times : MethodName := ⟨RX0, "times", "()I"⟩
abbrev cX0_told : ByteArray := prog_2_method_4_code
def yX0_told : MethodName := ⟨RX0, "told", "(I)I"⟩
abbrev cX0_run : ByteArray := prog_2_method_5_code
def yX0_run : MethodName := ⟨RX0, "run", "(LMatchLattice$Lists;I)V"⟩
abbrev cX0_leastAlone : ByteArray := prog_2_method_6_code
def yX0_leastAlone : MethodName := ⟨RX0, "leastAlone", "(II)I"⟩
abbrev cX0_ask : ByteArray := prog_2_method_7_code
def yX0_ask : MethodName := ⟨RX0, "ask", "(LMatchLattice$Lists;II)V"⟩
def RX1 : String := "MatchLattice$History"
def TX1 : u_T := fun k => match k with
  | 0 => ("MatchLattice$History", "steps", "LMatchLattice$Row;", true)
  | 1 => ("MatchLattice$History", "oldest", "I", false)
  | 2 => ("MatchLattice$History", "behind", "I", false)
  | _ => ("MatchLattice$History", "before", "I", false)
def tyX1 : Nat → FieldType := fun k => match k with
  | 0 => .object "MatchLattice$Row"
  | 1 => .int
  | 2 => .int
  | _ => .int
abbrev wsX10 : List Cond := u_ws RX1 TX1 4
theorem nmX1 : ∀ a, a < 4 → ∀ b, b < 4 → a ≠ b → (TX1 a).2.1 ≠ (TX1 b).2.1 := by decide +kernel
theorem tyX1_ok : ∀ k, k < 4 → parseFieldDescriptor (TX1 k).2.2.1 = some (tyX1 k) := by decide +kernel
abbrev cX1_init : ByteArray := prog_3_method_1_code
def yX1_init : MethodName := ⟨RX1, "<init>", "()V"⟩
abbrev cX1_behind : ByteArray := prog_3_method_2_code
def yX1_behind : MethodName := ⟨RX1, "behind", "()I"⟩
abbrev cX1_before : ByteArray := prog_3_method_3_code
def yX1_before : MethodName := ⟨RX1, "before", "()I"⟩
abbrev cX1_forget : ByteArray := prog_3_method_4_code
def yX1_forget : MethodName := ⟨RX1, "forget", "(LMatchLattice$Lists;)V"⟩
abbrev cX1_note : ByteArray := prog_3_method_5_code
def yX1_note : MethodName := ⟨RX1, "note", "(LMatchLattice$Lists;)V"⟩
abbrev cX1_stepBack : ByteArray := prog_3_method_6_code
def yX1_stepBack : MethodName := ⟨RX1, "stepBack", "(LMatchLattice$Lists;)V"⟩
abbrev cX1_stepOn : ByteArray := prog_3_method_7_code
def yX1_stepOn : MethodName := ⟨RX1, "stepOn", "(LMatchLattice$Lists;)V"⟩
abbrev cX1_start : ByteArray := prog_3_method_8_code
def yX1_start : MethodName := ⟨RX1, "start", "()I"⟩
def RX2 : String := "MatchLattice$Image"
def TX2 : u_T := fun k => match k with
  | 0 => ("MatchLattice$Image", "lists", "LMatchLattice$Lists;", true)
  | 1 => ("MatchLattice$Image", "pairing", "LMatchLattice$Pairing;", true)
  | _ => ("MatchLattice$Image", "there", "Z", false)
def tyX2 : Nat → FieldType := fun k => match k with
  | 0 => .object "MatchLattice$Lists"
  | 1 => .object "MatchLattice$Pairing"
  | _ => .boolean
abbrev wsX20 : List Cond := u_ws RX2 TX2 3
theorem nmX2 : ∀ a, a < 3 → ∀ b, b < 3 → a ≠ b → (TX2 a).2.1 ≠ (TX2 b).2.1 := by decide +kernel
theorem tyX2_ok : ∀ k, k < 3 → parseFieldDescriptor (TX2 k).2.2.1 = some (tyX2 k) := by decide +kernel
abbrev cX2_init : ByteArray := prog_4_method_1_code
def yX2_init : MethodName := ⟨RX2, "<init>", "()V"⟩
abbrev cX2_isThere : ByteArray := prog_4_method_2_code
def yX2_isThere : MethodName := ⟨RX2, "isThere", "()Z"⟩
abbrev cX2_take : ByteArray := prog_4_method_3_code
def yX2_take : MethodName := ⟨RX2, "take", "(LMatchLattice$Lists;LMatchLattice$Pairing;)V"⟩
abbrev cX2_layBack : ByteArray := prog_4_method_4_code
def yX2_layBack : MethodName := ⟨RX2, "layBack", "(LMatchLattice$Lists;LMatchLattice$Pairing;)V"⟩
def RX3 : String := "MatchLattice$Lists"
def TX3 : u_T := fun k => match k with
  | 0 => ("MatchLattice$Lists", "whos", "LMatchLattice$Row;", true)
  | 1 => ("MatchLattice$Lists", "places", "LMatchLattice$Row;", true)
  | _ => ("MatchLattice$Lists", "each", "I", false)
def tyX3 : Nat → FieldType := fun k => match k with
  | 0 => .object "MatchLattice$Row"
  | 1 => .object "MatchLattice$Row"
  | _ => .int
abbrev wsX30 : List Cond := u_ws RX3 TX3 3
theorem nmX3 : ∀ a, a < 3 → ∀ b, b < 3 → a ≠ b → (TX3 a).2.1 ≠ (TX3 b).2.1 := by decide +kernel
theorem tyX3_ok : ∀ k, k < 3 → parseFieldDescriptor (TX3 k).2.2.1 = some (tyX3 k) := by decide +kernel
abbrev cX3_init : ByteArray := prog_5_method_1_code
def yX3_init : MethodName := ⟨RX3, "<init>", "()V"⟩
abbrev cX3_each : ByteArray := prog_5_method_2_code
def yX3_each : MethodName := ⟨RX3, "each", "()I"⟩
abbrev cX3_begin : ByteArray := prog_5_method_3_code
def yX3_begin : MethodName := ⟨RX3, "begin", "(I)V"⟩
abbrev cX3_copyFrom : ByteArray := prog_5_method_4_code
def yX3_copyFrom : MethodName := ⟨RX3, "copyFrom", "(LMatchLattice$Lists;)V"⟩
abbrev cX3_who : ByteArray := prog_5_method_5_code
def yX3_who : MethodName := ⟨RX3, "who", "(III)I"⟩
abbrev cX3_place : ByteArray := prog_5_method_6_code
def yX3_place : MethodName := ⟨RX3, "place", "(III)I"⟩
abbrev cX3_wouldRather : ByteArray := prog_5_method_7_code
def yX3_wouldRather : MethodName := ⟨RX3, "wouldRather", "(IIII)Z"⟩
abbrev cX3_put : ByteArray := prog_5_method_8_code
def yX3_put : MethodName := ⟨RX3, "put", "(IIII)V"⟩
abbrev cX3_exchange : ByteArray := prog_5_method_9_code
def yX3_exchange : MethodName := ⟨RX3, "exchange", "(III)V"⟩
abbrev cX3_orders : ByteArray := prog_5_method_10_code
def yX3_orders : MethodName := ⟨RX3, "orders", "()I"⟩
abbrev cX3_arrange : ByteArray := prog_5_method_11_code
def yX3_arrange : MethodName := ⟨RX3, "arrange", "(III)V"⟩
abbrev cX3_unused : ByteArray := prog_5_method_12_code
def yX3_unused : MethodName := ⟨RX3, "unused", "(II)I"⟩
abbrev cX3_doBlock : ByteArray := prog_5_method_13_code
def yX3_doBlock : MethodName := ⟨RX3, "doBlock", "(LMatchLattice$Pairing;II)Z"⟩
abbrev cX3_firstBlock : ByteArray := prog_5_method_14_code
def yX3_firstBlock : MethodName := ⟨RX3, "firstBlock", "(LMatchLattice$Pairing;)I"⟩
abbrev cX3_howManyBlock : ByteArray := prog_5_method_15_code
def yX3_howManyBlock : MethodName := ⟨RX3, "howManyBlock", "(LMatchLattice$Pairing;)I"⟩
abbrev cX3_costOf : ByteArray := prog_5_method_16_code
def yX3_costOf : MethodName := ⟨RX3, "costOf", "(LMatchLattice$Pairing;I)I"⟩
abbrev cX3_saveTo : ByteArray := prog_5_method_17_code
def yX3_saveTo : MethodName := ⟨RX3, "saveTo", "(LMatchLattice$Row;I)V"⟩
abbrev cX3_loadFrom : ByteArray := prog_5_method_18_code
def yX3_loadFrom : MethodName := ⟨RX3, "loadFrom", "(LMatchLattice$Row;I)V"⟩
abbrev cX3_cell : ByteArray := prog_5_method_19_code
def yX3_cell : MethodName := ⟨RX3, "cell", "(III)I"⟩
def RX4 : String := "MatchLattice$Matches"
def TX4 : u_T := fun k => match k with
  | 0 => ("MatchLattice$Matches", "closed", "LMatchLattice$Row;", true)
  | 1 => ("MatchLattice$Matches", "total", "I", false)
  | 2 => ("MatchLattice$Matches", "first", "LMatchLattice$Pairing;", true)
  | _ => ("MatchLattice$Matches", "loaded", "LMatchLattice$Pairing;", true)
def tyX4 : Nat → FieldType := fun k => match k with
  | 0 => .object "MatchLattice$Row"
  | 1 => .int
  | 2 => .object "MatchLattice$Pairing"
  | _ => .object "MatchLattice$Pairing"
abbrev wsX40 : List Cond := u_ws RX4 TX4 4
theorem nmX4 : ∀ a, a < 4 → ∀ b, b < 4 → a ≠ b → (TX4 a).2.1 ≠ (TX4 b).2.1 := by decide +kernel
theorem tyX4_ok : ∀ k, k < 4 → parseFieldDescriptor (TX4 k).2.2.1 = some (tyX4 k) := by decide +kernel
abbrev cX4_init : ByteArray := prog_6_method_1_code
def yX4_init : MethodName := ⟨RX4, "<init>", "()V"⟩
abbrev cX4_total : ByteArray := prog_6_method_2_code
def yX4_total : MethodName := ⟨RX4, "total", "()I"⟩
abbrev cX4_isMatch : ByteArray := prog_6_method_3_code
def yX4_isMatch : MethodName := ⟨RX4, "isMatch", "(I)Z"⟩
abbrev cX4_bits : ByteArray := prog_6_method_4_code
def yX4_bits : MethodName := ⟨RX4, "bits", "(I)I"⟩
abbrev cX4_numberOf : ByteArray := prog_6_method_5_code
def yX4_numberOf : MethodName := ⟨RX4, "numberOf", "(I)I"⟩
abbrev cX4_find : ByteArray := prog_6_method_6_code
def yX4_find : MethodName := ⟨RX4, "find", "(LMatchLattice$Turns;LMatchLattice$Pairing;)V"⟩
abbrev cX4_load : ByteArray := prog_6_method_7_code
def yX4_load : MethodName := ⟨RX4, "load", "(ILMatchLattice$Turns;)LMatchLattice$Pairing;"⟩
def RX5 : String := "MatchLattice$Pairing"
def TX5 : u_T := fun k => match k with
  | _ => ("MatchLattice$Pairing", "partners", "LMatchLattice$Row;", true)
def tyX5 : Nat → FieldType := fun k => match k with
  | _ => .object "MatchLattice$Row"
abbrev wsX50 : List Cond := u_ws RX5 TX5 1
theorem nmX5 : ∀ a, a < 1 → ∀ b, b < 1 → a ≠ b → (TX5 a).2.1 ≠ (TX5 b).2.1 := by decide +kernel
theorem tyX5_ok : ∀ k, k < 1 → parseFieldDescriptor (TX5 k).2.2.1 = some (tyX5 k) := by decide +kernel
abbrev cX5_init : ByteArray := prog_7_method_1_code
def yX5_init : MethodName := ⟨RX5, "<init>", "()V"⟩
abbrev cX5_clear : ByteArray := prog_7_method_2_code
def yX5_clear : MethodName := ⟨RX5, "clear", "()V"⟩
abbrev cX5_copyFrom : ByteArray := prog_7_method_3_code
def yX5_copyFrom : MethodName := ⟨RX5, "copyFrom", "(LMatchLattice$Pairing;)V"⟩
abbrev cX5_partner : ByteArray := prog_7_method_4_code
def yX5_partner : MethodName := ⟨RX5, "partner", "(II)I"⟩
abbrev cX5_part : ByteArray := prog_7_method_5_code
def yX5_part : MethodName := ⟨RX5, "part", "(II)V"⟩
abbrev cX5_join : ByteArray := prog_7_method_6_code
def yX5_join : MethodName := ⟨RX5, "join", "(III)V"⟩
abbrev cX5_tie : ByteArray := prog_7_method_7_code
def yX5_tie : MethodName := ⟨RX5, "tie", "(III)V"⟩
abbrev cX5_cell : ByteArray := prog_7_method_8_code
def yX5_cell : MethodName := ⟨RX5, "cell", "(II)I"⟩
def RX6 : String := "MatchLattice$Row"
def TX6 : u_T := fun k => match k with
  | _ => ("MatchLattice$Row", "cells", "[I", true)
def tyX6 : Nat → FieldType := fun k => match k with
  | _ => .array .int
abbrev wsX60 : List Cond := u_ws RX6 TX6 1
theorem nmX6 : ∀ a, a < 1 → ∀ b, b < 1 → a ≠ b → (TX6 a).2.1 ≠ (TX6 b).2.1 := by decide +kernel
theorem tyX6_ok : ∀ k, k < 1 → parseFieldDescriptor (TX6 k).2.2.1 = some (tyX6 k) := by decide +kernel
abbrev cX6_init : ByteArray := prog_8_method_1_code
def yX6_init : MethodName := ⟨RX6, "<init>", "(I)V"⟩
abbrev cX6_get : ByteArray := prog_8_method_2_code
def yX6_get : MethodName := ⟨RX6, "get", "(I)I"⟩
abbrev cX6_set : ByteArray := prog_8_method_3_code
def yX6_set : MethodName := ⟨RX6, "set", "(II)V"⟩
abbrev cX6_fill : ByteArray := prog_8_method_4_code
def yX6_fill : MethodName := ⟨RX6, "fill", "(I)V"⟩
abbrev cX6_copyFrom : ByteArray := prog_8_method_5_code
def yX6_copyFrom : MethodName := ⟨RX6, "copyFrom", "(LMatchLattice$Row;)V"⟩
def RX7 : String := "MatchLattice$Tape"
def TX7 : u_T := fun k => match k with
  | 0 => ("MatchLattice$Tape", "bytes", "LMatchLattice$Row;", true)
  | _ => ("MatchLattice$Tape", "length", "I", false)
def tyX7 : Nat → FieldType := fun k => match k with
  | 0 => .object "MatchLattice$Row"
  | _ => .int
abbrev wsX70 : List Cond := u_ws RX7 TX7 2
theorem nmX7 : ∀ a, a < 2 → ∀ b, b < 2 → a ≠ b → (TX7 a).2.1 ≠ (TX7 b).2.1 := by decide +kernel
theorem tyX7_ok : ∀ k, k < 2 → parseFieldDescriptor (TX7 k).2.2.1 = some (tyX7 k) := by decide +kernel
abbrev cX7_init : ByteArray := prog_9_method_1_code
def yX7_init : MethodName := ⟨RX7, "<init>", "()V"⟩
abbrev cX7_length : ByteArray := prog_9_method_2_code
def yX7_length : MethodName := ⟨RX7, "length", "()I"⟩
abbrev cX7_add : ByteArray := prog_9_method_3_code
def yX7_add : MethodName := ⟨RX7, "add", "(I)Z"⟩
abbrev cX7_clear : ByteArray := prog_9_method_4_code
def yX7_clear : MethodName := ⟨RX7, "clear", "()V"⟩
abbrev cX7_readInto : ByteArray := prog_9_method_5_code
def yX7_readInto : MethodName := ⟨RX7, "readInto", "(LMatchLattice$Lists;)I"⟩
abbrev cX7_readLine : ByteArray := prog_9_method_6_code
def yX7_readLine : MethodName := ⟨RX7, "readLine", "(ILMatchLattice$Lists;)I"⟩
abbrev cX7_readFigures : ByteArray := prog_9_method_7_code
def yX7_readFigures : MethodName := ⟨RX7, "readFigures", "(ILMatchLattice$Lists;II)I"⟩
abbrev cX7_sideAt : ByteArray := prog_9_method_8_code
def yX7_sideAt : MethodName := ⟨RX7, "sideAt", "(I)I"⟩
abbrev cX7_figureAt : ByteArray := prog_9_method_9_code
def yX7_figureAt : MethodName := ⟨RX7, "figureAt", "(II)I"⟩
abbrev cX7_byteAt : ByteArray := prog_9_method_10_code
def yX7_byteAt : MethodName := ⟨RX7, "byteAt", "(I)I"⟩
abbrev cX7_faultAt : ByteArray := prog_9_method_11_code
def yX7_faultAt : MethodName := ⟨RX7, "faultAt", "(I)I"⟩
def RX8 : String := "MatchLattice$Turns"
def TX8 : u_T := fun k => match k with
  | 0 => ("MatchLattice$Turns", "lefts", "LMatchLattice$Row;", true)
  | 1 => ("MatchLattice$Turns", "rights", "LMatchLattice$Row;", true)
  | 2 => ("MatchLattice$Turns", "lengths", "LMatchLattice$Row;", true)
  | 3 => ("MatchLattice$Turns", "gains", "LMatchLattice$Row;", true)
  | 4 => ("MatchLattice$Turns", "needs", "LMatchLattice$Row;", true)
  | 5 => ("MatchLattice$Turns", "depths", "LMatchLattice$Row;", true)
  | 6 => ("MatchLattice$Turns", "total", "I", false)
  | 7 => ("MatchLattice$Turns", "now", "LMatchLattice$Pairing;", true)
  | 8 => ("MatchLattice$Turns", "followers", "LMatchLattice$Row;", true)
  | 9 => ("MatchLattice$Turns", "broughtBy", "LMatchLattice$Row;", true)
  | _ => ("MatchLattice$Turns", "passedBy", "LMatchLattice$Row;", true)
def tyX8 : Nat → FieldType := fun k => match k with
  | 0 => .object "MatchLattice$Row"
  | 1 => .object "MatchLattice$Row"
  | 2 => .object "MatchLattice$Row"
  | 3 => .object "MatchLattice$Row"
  | 4 => .object "MatchLattice$Row"
  | 5 => .object "MatchLattice$Row"
  | 6 => .int
  | 7 => .object "MatchLattice$Pairing"
  | 8 => .object "MatchLattice$Row"
  | 9 => .object "MatchLattice$Row"
  | _ => .object "MatchLattice$Row"
abbrev wsX80 : List Cond := u_ws RX8 TX8 11
theorem nmX8 : ∀ a, a < 11 → ∀ b, b < 11 → a ≠ b → (TX8 a).2.1 ≠ (TX8 b).2.1 := by decide +kernel
theorem tyX8_ok : ∀ k, k < 11 → parseFieldDescriptor (TX8 k).2.2.1 = some (tyX8 k) := by decide +kernel
abbrev cX8_init : ByteArray := prog_10_method_1_code
def yX8_init : MethodName := ⟨RX8, "<init>", "()V"⟩
abbrev cX8_total : ByteArray := prog_10_method_2_code
def yX8_total : MethodName := ⟨RX8, "total", "()I"⟩
abbrev cX8_isTurn : ByteArray := prog_10_method_3_code
def yX8_isTurn : MethodName := ⟨RX8, "isTurn", "(I)Z"⟩
abbrev cX8_length : ByteArray := prog_10_method_4_code
def yX8_length : MethodName := ⟨RX8, "length", "(I)I"⟩
abbrev cX8_left : ByteArray := prog_10_method_5_code
def yX8_left : MethodName := ⟨RX8, "left", "(II)I"⟩
abbrev cX8_right : ByteArray := prog_10_method_6_code
def yX8_right : MethodName := ⟨RX8, "right", "(II)I"⟩
abbrev cX8_gain : ByteArray := prog_10_method_7_code
def yX8_gain : MethodName := ⟨RX8, "gain", "(I)I"⟩
abbrev cX8_needs : ByteArray := prog_10_method_8_code
def yX8_needs : MethodName := ⟨RX8, "needs", "(I)I"⟩
abbrev cX8_depth : ByteArray := prog_10_method_9_code
def yX8_depth : MethodName := ⟨RX8, "depth", "(I)I"⟩
abbrev cX8_openTo : ByteArray := prog_10_method_10_code
def yX8_openTo : MethodName := ⟨RX8, "openTo", "(I)I"⟩
abbrev cX8_isReady : ByteArray := prog_10_method_11_code
def yX8_isReady : MethodName := ⟨RX8, "isReady", "(II)Z"⟩
abbrev cX8_gainOfAll : ByteArray := prog_10_method_12_code
def yX8_gainOfAll : MethodName := ⟨RX8, "gainOfAll", "(I)I"⟩
abbrev cX8_partnersLeft : ByteArray := prog_10_method_13_code
def yX8_partnersLeft : MethodName := ⟨RX8, "partnersLeft", "(II)I"⟩
abbrev cX8_movers : ByteArray := prog_10_method_14_code
def yX8_movers : MethodName := ⟨RX8, "movers", "()I"⟩
abbrev cX8_behind : ByteArray := prog_10_method_15_code
def yX8_behind : MethodName := ⟨RX8, "behind", "(LMatchLattice$Pairing;LMatchLattice$Lists;)I"⟩
abbrev cX8_perform : ByteArray := prog_10_method_16_code
def yX8_perform : MethodName := ⟨RX8, "perform", "(ILMatchLattice$Pairing;)V"⟩
abbrev cX8_find : ByteArray := prog_10_method_17_code
def yX8_find : MethodName := ⟨RX8, "find", "(LMatchLattice$Lists;LMatchLattice$Pairing;)V"⟩
abbrev cX8_nextOf : ByteArray := prog_10_method_18_code
def yX8_nextOf : MethodName := ⟨RX8, "nextOf", "(ILMatchLattice$Lists;)I"⟩
abbrev cX8_firstLeader : ByteArray := prog_10_method_19_code
def yX8_firstLeader : MethodName := ⟨RX8, "firstLeader", "(I)I"⟩
abbrev cX8_comesBack : ByteArray := prog_10_method_20_code
def yX8_comesBack : MethodName := ⟨RX8, "comesBack", "(II)Z"⟩
abbrev cX8_keepPairs : ByteArray := prog_10_method_21_code
def yX8_keepPairs : MethodName := ⟨RX8, "keepPairs", "(II)V"⟩
abbrev cX8_following : ByteArray := prog_10_method_22_code
def yX8_following : MethodName := ⟨RX8, "following", "(II)I"⟩
abbrev cX8_keepNeeds : ByteArray := prog_10_method_23_code
def yX8_keepNeeds : MethodName := ⟨RX8, "keepNeeds", "(ILMatchLattice$Lists;)V"⟩
abbrev cX8_withNeeds : ByteArray := prog_10_method_24_code
def yX8_withNeeds : MethodName := ⟨RX8, "withNeeds", "(I)I"⟩
abbrev cX8_depthBehind : ByteArray := prog_10_method_25_code
def yX8_depthBehind : MethodName := ⟨RX8, "depthBehind", "(II)I"⟩
abbrev cX8_weigh : ByteArray := prog_10_method_26_code
def yX8_weigh : MethodName := ⟨RX8, "weigh", "(ILMatchLattice$Lists;)I"⟩
abbrev cX8_markPassed : ByteArray := prog_10_method_27_code
def yX8_markPassed : MethodName := ⟨RX8, "markPassed", "(ILMatchLattice$Lists;)V"⟩
def RX9 : String := "MatchLattice"
def TX9 : u_T := fun k => match k with
  | 0 => ("MatchLattice", "tape", "LMatchLattice$Tape;", true)
  | 1 => ("MatchLattice", "told", "LMatchLattice$Lists;", true)
  | 2 => ("MatchLattice", "draft", "LMatchLattice$Lists;", true)
  | 3 => ("MatchLattice", "history", "LMatchLattice$History;", true)
  | 4 => ("MatchLattice", "asked", "LMatchLattice$Asking;", true)
  | 5 => ("MatchLattice", "turns", "LMatchLattice$Turns;", true)
  | 6 => ("MatchLattice", "matches", "LMatchLattice$Matches;", true)
  | 7 => ("MatchLattice", "byHand", "LMatchLattice$Pairing;", true)
  | 8 => ("MatchLattice", "afterMending", "LMatchLattice$Pairing;", true)
  | 9 => ("MatchLattice", "kept", "LMatchLattice$Image;", true)
  | _ => ("MatchLattice", "settled", "Z", false)
def tyX9 : Nat → FieldType := fun k => match k with
  | 0 => .object "MatchLattice$Tape"
  | 1 => .object "MatchLattice$Lists"
  | 2 => .object "MatchLattice$Lists"
  | 3 => .object "MatchLattice$History"
  | 4 => .object "MatchLattice$Asking"
  | 5 => .object "MatchLattice$Turns"
  | 6 => .object "MatchLattice$Matches"
  | 7 => .object "MatchLattice$Pairing"
  | 8 => .object "MatchLattice$Pairing"
  | 9 => .object "MatchLattice$Image"
  | _ => .boolean
abbrev wsX90 : List Cond := u_ws RX9 TX9 11
theorem nmX9 : ∀ a, a < 11 → ∀ b, b < 11 → a ≠ b → (TX9 a).2.1 ≠ (TX9 b).2.1 := by decide +kernel
theorem tyX9_ok : ∀ k, k < 11 → parseFieldDescriptor (TX9 k).2.2.1 = some (tyX9 k) := by decide +kernel
abbrev cX9_init : ByteArray := prog_1_method_1_code
def yX9_init : MethodName := ⟨RX9, "<init>", "()V"⟩
abbrev cX9_size : ByteArray := prog_1_method_2_code
def yX9_size : MethodName := ⟨RX9, "size", "(I)I"⟩
abbrev cX9_feed : ByteArray := prog_1_method_3_code
def yX9_feed : MethodName := ⟨RX9, "feed", "(I)I"⟩
abbrev cX9_lists : ByteArray := prog_1_method_4_code
def yX9_lists : MethodName := ⟨RX9, "lists", "()I"⟩
abbrev cX9_list : ByteArray := prog_1_method_5_code
def yX9_list : MethodName := ⟨RX9, "list", "(III)I"⟩
abbrev cX9_stir : ByteArray := prog_1_method_6_code
def yX9_stir : MethodName := ⟨RX9, "stir", "(III)I"⟩
abbrev cX9_stirred : ByteArray := prog_1_method_7_code
def yX9_stirred : MethodName := ⟨RX9, "stirred", "(III)I"⟩
abbrev cX9_undo : ByteArray := prog_1_method_8_code
def yX9_undo : MethodName := ⟨RX9, "undo", "()I"⟩
abbrev cX9_redo : ByteArray := prog_1_method_9_code
def yX9_redo : MethodName := ⟨RX9, "redo", "()I"⟩
abbrev cX9_best : ByteArray := prog_1_method_10_code
def yX9_best : MethodName := ⟨RX9, "best", "(III)I"⟩
abbrev cX9_asking : ByteArray := prog_1_method_11_code
def yX9_asking : MethodName := ⟨RX9, "asking", "(II)I"⟩
abbrev cX9_rounds : ByteArray := prog_1_method_12_code
def yX9_rounds : MethodName := ⟨RX9, "rounds", "(I)I"⟩
abbrev cX9_pair : ByteArray := prog_1_method_13_code
def yX9_pair : MethodName := ⟨RX9, "pair", "(II)I"⟩
abbrev cX9_ahead : ByteArray := prog_1_method_14_code
def yX9_ahead : MethodName := ⟨RX9, "ahead", "(I)I"⟩
abbrev cX9_of : ByteArray := prog_1_method_15_code
def yX9_of : MethodName := ⟨RX9, "of", "(II)I"⟩
abbrev cX9_exposed : ByteArray := prog_1_method_16_code
def yX9_exposed : MethodName := ⟨RX9, "exposed", "(I)I"⟩
abbrev cX9_match : ByteArray := prog_1_method_17_code
def yX9_match : MethodName := ⟨RX9, "match", "(I)I"⟩
abbrev cX9_has : ByteArray := prog_1_method_18_code
def yX9_has : MethodName := ⟨RX9, "has", "(III)I"⟩
abbrev cX9_cost : ByteArray := prog_1_method_19_code
def yX9_cost : MethodName := ⟨RX9, "cost", "(II)I"⟩
abbrev cX9_pick : ByteArray := prog_1_method_20_code
def yX9_pick : MethodName := ⟨RX9, "pick", "(I)I"⟩
abbrev cX9_most : ByteArray := prog_1_method_21_code
def yX9_most : MethodName := ⟨RX9, "most", "()I"⟩
abbrev cX9_either : ByteArray := prog_1_method_22_code
def yX9_either : MethodName := ⟨RX9, "either", "(III)I"⟩
abbrev cX9_middle : ByteArray := prog_1_method_23_code
def yX9_middle : MethodName := ⟨RX9, "middle", "(III)I"⟩
abbrev cX9_may : ByteArray := prog_1_method_24_code
def yX9_may : MethodName := ⟨RX9, "may", "(II)I"⟩
abbrev cX9_fixed : ByteArray := prog_1_method_25_code
def yX9_fixed : MethodName := ⟨RX9, "fixed", "()I"⟩
abbrev cX9_lie : ByteArray := prog_1_method_26_code
def yX9_lie : MethodName := ⟨RX9, "lie", "(II)I"⟩
abbrev cX9_text : ByteArray := prog_1_method_27_code
def yX9_text : MethodName := ⟨RX9, "text", "(II)I"⟩
abbrev cX9_hand : ByteArray := prog_1_method_28_code
def yX9_hand : MethodName := ⟨RX9, "hand", "(II)I"⟩
abbrev cX9_handed : ByteArray := prog_1_method_29_code
def yX9_handed : MethodName := ⟨RX9, "handed", "(I)I"⟩
abbrev cX9_blocks : ByteArray := prog_1_method_30_code
def yX9_blocks : MethodName := ⟨RX9, "blocks", "()I"⟩
abbrev cX9_blocking : ByteArray := prog_1_method_31_code
def yX9_blocking : MethodName := ⟨RX9, "blocking", "()I"⟩
abbrev cX9_mended : ByteArray := prog_1_method_32_code
def yX9_mended : MethodName := ⟨RX9, "mended", "(I)I"⟩
abbrev cX9_known : ByteArray := prog_1_method_33_code
def yX9_known : MethodName := ⟨RX9, "known", "()I"⟩
abbrev cX9_image : ByteArray := prog_1_method_34_code
def yX9_image : MethodName := ⟨RX9, "image", "()I"⟩
abbrev cX9_back : ByteArray := prog_1_method_35_code
def yX9_back : MethodName := ⟨RX9, "back", "()I"⟩
abbrev cX9_count : ByteArray := prog_1_method_36_code
def yX9_count : MethodName := ⟨RX9, "count", "(I)I"⟩
abbrev cX9_isSide : ByteArray := prog_1_method_37_code
def yX9_isSide : MethodName := ⟨RX9, "isSide", "(I)Z"⟩
abbrev cX9_isCost : ByteArray := prog_1_method_38_code
def yX9_isCost : MethodName := ⟨RX9, "isCost", "(I)Z"⟩
abbrev cX9_isOne : ByteArray := prog_1_method_39_code
def yX9_isOne : MethodName := ⟨RX9, "isOne", "(I)Z"⟩
abbrev cX9_canStir : ByteArray := prog_1_method_40_code
def yX9_canStir : MethodName := ⟨RX9, "canStir", "(III)Z"⟩
abbrev cX9_orNot : ByteArray := prog_1_method_41_code
def yX9_orNot : MethodName := ⟨RX9, "orNot", "(I)I"⟩
abbrev cX9_settle : ByteArray := prog_1_method_42_code
def yX9_settle : MethodName := ⟨RX9, "settle", "()V"⟩
abbrev cX9_printed : ByteArray := prog_1_method_43_code
def yX9_printed : MethodName := ⟨RX9, "printed", "(LMatchLattice$Pairing;I)I"⟩
abbrev cX9_mend : ByteArray := prog_1_method_44_code
def yX9_mend : MethodName := ⟨RX9, "mend", "()I"⟩
abbrev cX9_leftsAlone : ByteArray := prog_1_method_45_code
def yX9_leftsAlone : MethodName := ⟨RX9, "leftsAlone", "()I"⟩
def RX10 : String := "MatchLatticeModel"
def TX10 : u_T := fun k => match k with
  | 0 => ("MatchLatticeModel", "n", "I", false)
  | 1 => ("MatchLatticeModel", "keptN", "I", false)
  | 2 => ("MatchLatticeModel", "list", "[I", true)
  | 3 => ("MatchLatticeModel", "place", "[I", true)
  | 4 => ("MatchLatticeModel", "keptList", "[I", true)
  | 5 => ("MatchLatticeModel", "mind", "[I", true)
  | 6 => ("MatchLatticeModel", "undone", "[I", true)
  | 7 => ("MatchLatticeModel", "again", "[I", true)
  | 8 => ("MatchLatticeModel", "undos", "I", false)
  | 9 => ("MatchLatticeModel", "redos", "I", false)
  | 10 => ("MatchLatticeModel", "tape", "[I", true)
  | 11 => ("MatchLatticeModel", "hand", "[I", true)
  | 12 => ("MatchLatticeModel", "keptHand", "[I", true)
  | 13 => ("MatchLatticeModel", "mended", "[I", true)
  | 14 => ("MatchLatticeModel", "letters", "I", false)
  | 15 => ("MatchLatticeModel", "at", "I", false)
  | 16 => ("MatchLatticeModel", "fault", "I", false)
  | 17 => ("MatchLatticeModel", "asked", "[I", true)
  | 18 => ("MatchLatticeModel", "asks", "[I", true)
  | 19 => ("MatchLatticeModel", "had", "[I", true)
  | 20 => ("MatchLatticeModel", "bestOf", "[I", true)
  | 21 => ("MatchLatticeModel", "match", "[I", true)
  | 22 => ("MatchLatticeModel", "other", "[I", true)
  | 23 => ("MatchLatticeModel", "third", "[I", true)
  | 24 => ("MatchLatticeModel", "askings", "I", false)
  | 25 => ("MatchLatticeModel", "pairs", "[I", true)
  | 26 => ("MatchLatticeModel", "many", "[I", true)
  | 27 => ("MatchLatticeModel", "ahead", "[I", true)
  | 28 => ("MatchLatticeModel", "depth", "[I", true)
  | 29 => ("MatchLatticeModel", "next", "[I", true)
  | 30 => ("MatchLatticeModel", "cycle", "[I", true)
  | 31 => ("MatchLatticeModel", "turns", "I", false)
  | 32 => ("MatchLatticeModel", "cycleMany", "I", false)
  | 33 => ("MatchLatticeModel", "closed", "[I", true)
  | 34 => ("MatchLatticeModel", "matches", "I", false)
  | 35 => ("MatchLatticeModel", "isKnown", "Z", false)
  | 36 => ("MatchLatticeModel", "liePlace", "I", false)
  | _ => ("MatchLatticeModel", "lieMany", "I", false)
def tyX10 : Nat → FieldType := fun k => match k with
  | 0 => .int
  | 1 => .int
  | 2 => .array .int
  | 3 => .array .int
  | 4 => .array .int
  | 5 => .array .int
  | 6 => .array .int
  | 7 => .array .int
  | 8 => .int
  | 9 => .int
  | 10 => .array .int
  | 11 => .array .int
  | 12 => .array .int
  | 13 => .array .int
  | 14 => .int
  | 15 => .int
  | 16 => .int
  | 17 => .array .int
  | 18 => .array .int
  | 19 => .array .int
  | 20 => .array .int
  | 21 => .array .int
  | 22 => .array .int
  | 23 => .array .int
  | 24 => .int
  | 25 => .array .int
  | 26 => .array .int
  | 27 => .array .int
  | 28 => .array .int
  | 29 => .array .int
  | 30 => .array .int
  | 31 => .int
  | 32 => .int
  | 33 => .array .int
  | 34 => .int
  | 35 => .boolean
  | 36 => .int
  | _ => .int
abbrev wsX100 : List Cond := u_ws RX10 TX10 38
theorem nmX10 : ∀ a, a < 38 → ∀ b, b < 38 → a ≠ b → (TX10 a).2.1 ≠ (TX10 b).2.1 := by decide +kernel
theorem tyX10_ok : ∀ k, k < 38 → parseFieldDescriptor (TX10 k).2.2.1 = some (tyX10 k) := by decide +kernel
abbrev cX10_init : ByteArray := prog_12_method_1_code
def yX10_init : MethodName := ⟨RX10, "<init>", "()V"⟩
abbrev cX10_isIn : ByteArray := prog_12_method_2_code
def yX10_isIn : MethodName := ⟨RX10, "isIn", "(III)Z"⟩
abbrev cX10_isOne : ByteArray := prog_12_method_3_code
def yX10_isOne : MethodName := ⟨RX10, "isOne", "(I)Z"⟩
abbrev cX10_has : ByteArray := prog_12_method_4_code
def yX10_has : MethodName := ⟨RX10, "has", "(II)Z"⟩
abbrev cX10_at : ByteArray := prog_12_method_5_code
def yX10_at : MethodName := ⟨RX10, "at", "(III)I"⟩
abbrev cX10_copies : ByteArray := prog_12_method_6_code
def yX10_copies : MethodName := ⟨RX10, "copies", "([II[III)V"⟩
abbrev cX10_begins : ByteArray := prog_12_method_7_code
def yX10_begins : MethodName := ⟨RX10, "begins", "()V"⟩
abbrev cX10_places : ByteArray := prog_12_method_8_code
def yX10_places : MethodName := ⟨RX10, "places", "()V"⟩
abbrev cX10_placeOf : ByteArray := prog_12_method_9_code
def yX10_placeOf : MethodName := ⟨RX10, "placeOf", "(III)I"⟩
abbrev cX10_rather : ByteArray := prog_12_method_10_code
def yX10_rather : MethodName := ⟨RX10, "rather", "(IIII)Z"⟩
abbrev cX10_size : ByteArray := prog_12_method_11_code
def yX10_size : MethodName := ⟨RX10, "size", "(I)I"⟩
abbrev cX10_feed : ByteArray := prog_12_method_12_code
def yX10_feed : MethodName := ⟨RX10, "feed", "(I)I"⟩
abbrev cX10_sees : ByteArray := prog_12_method_13_code
def yX10_sees : MethodName := ⟨RX10, "sees", "(II)Z"⟩
abbrev cX10_takes : ByteArray := prog_12_method_14_code
def yX10_takes : MethodName := ⟨RX10, "takes", "(I)Z"⟩
abbrev cX10_figure : ByteArray := prog_12_method_15_code
def yX10_figure : MethodName := ⟨RX10, "figure", "(I)I"⟩
abbrev cX10_line : ByteArray := prog_12_method_16_code
def yX10_line : MethodName := ⟨RX10, "line", "()V"⟩
abbrev cX10_changes : ByteArray := prog_12_method_17_code
def yX10_changes : MethodName := ⟨RX10, "changes", "()V"⟩
abbrev cX10_lists : ByteArray := prog_12_method_18_code
def yX10_lists : MethodName := ⟨RX10, "lists", "()I"⟩
abbrev cX10_list : ByteArray := prog_12_method_19_code
def yX10_list : MethodName := ⟨RX10, "list", "(III)I"⟩
abbrev cX10_mayStir : ByteArray := prog_12_method_20_code
def yX10_mayStir : MethodName := ⟨RX10, "mayStir", "(III)Z"⟩
abbrev cX10_stirs : ByteArray := prog_12_method_21_code
def yX10_stirs : MethodName := ⟨RX10, "stirs", "([IIII)V"⟩
abbrev cX10_stir : ByteArray := prog_12_method_22_code
def yX10_stir : MethodName := ⟨RX10, "stir", "(III)I"⟩
abbrev cX10_stirred : ByteArray := prog_12_method_23_code
def yX10_stirred : MethodName := ⟨RX10, "stirred", "(III)I"⟩
abbrev cX10_undo : ByteArray := prog_12_method_24_code
def yX10_undo : MethodName := ⟨RX10, "undo", "()I"⟩
abbrev cX10_redo : ByteArray := prog_12_method_25_code
def yX10_redo : MethodName := ⟨RX10, "redo", "()I"⟩
abbrev cX10_asks : ByteArray := prog_12_method_26_code
def yX10_asks : MethodName := ⟨RX10, "asks", "(I)V"⟩
abbrev cX10_firstAlone : ByteArray := prog_12_method_27_code
def yX10_firstAlone : MethodName := ⟨RX10, "firstAlone", "()I"⟩
abbrev cX10_bests : ByteArray := prog_12_method_28_code
def yX10_bests : MethodName := ⟨RX10, "bests", "(I[I)V"⟩
abbrev cX10_leftOf : ByteArray := prog_12_method_29_code
def yX10_leftOf : MethodName := ⟨RX10, "leftOf", "([II)I"⟩
abbrev cX10_best : ByteArray := prog_12_method_30_code
def yX10_best : MethodName := ⟨RX10, "best", "(III)I"⟩
abbrev cX10_asking : ByteArray := prog_12_method_31_code
def yX10_asking : MethodName := ⟨RX10, "asking", "(II)I"⟩
abbrev cX10_nexts : ByteArray := prog_12_method_32_code
def yX10_nexts : MethodName := ⟨RX10, "nexts", "([I)V"⟩
abbrev cX10_isFirst : ByteArray := prog_12_method_33_code
def yX10_isFirst : MethodName := ⟨RX10, "isFirst", "([II)Z"⟩
abbrev cX10_numberOf : ByteArray := prog_12_method_34_code
def yX10_numberOf : MethodName := ⟨RX10, "numberOf", "()I"⟩
abbrev cX10_does : ByteArray := prog_12_method_35_code
def yX10_does : MethodName := ⟨RX10, "does", "(I[I)V"⟩
abbrev cX10_firstExposed : ByteArray := prog_12_method_36_code
def yX10_firstExposed : MethodName := ⟨RX10, "firstExposed", "([II)I"⟩
abbrev cX10_finds : ByteArray := prog_12_method_37_code
def yX10_finds : MethodName := ⟨RX10, "finds", "()V"⟩
abbrev cX10_without : ByteArray := prog_12_method_38_code
def yX10_without : MethodName := ⟨RX10, "without", "(I)V"⟩
abbrev cX10_knows : ByteArray := prog_12_method_39_code
def yX10_knows : MethodName := ⟨RX10, "knows", "()V"⟩
abbrev cX10_rounds : ByteArray := prog_12_method_40_code
def yX10_rounds : MethodName := ⟨RX10, "rounds", "(I)I"⟩
abbrev cX10_pair : ByteArray := prog_12_method_41_code
def yX10_pair : MethodName := ⟨RX10, "pair", "(II)I"⟩
abbrev cX10_ahead : ByteArray := prog_12_method_42_code
def yX10_ahead : MethodName := ⟨RX10, "ahead", "(I)I"⟩
abbrev cX10_gain : ByteArray := prog_12_method_43_code
def yX10_gain : MethodName := ⟨RX10, "gain", "(I)I"⟩
abbrev cX10_of : ByteArray := prog_12_method_44_code
def yX10_of : MethodName := ⟨RX10, "of", "(II)I"⟩
abbrev cX10_isMatch : ByteArray := prog_12_method_45_code
def yX10_isMatch : MethodName := ⟨RX10, "isMatch", "(I)Z"⟩
abbrev cX10_makes : ByteArray := prog_12_method_46_code
def yX10_makes : MethodName := ⟨RX10, "makes", "(I[I)V"⟩
abbrev cX10_isLike : ByteArray := prog_12_method_47_code
def yX10_isLike : MethodName := ⟨RX10, "isLike", "([I[I)Z"⟩
abbrev cX10_numberOf_ : ByteArray := prog_12_method_48_code
def yX10_numberOf_ : MethodName := ⟨RX10, "numberOf", "([I)I"⟩
abbrev cX10_exposed : ByteArray := prog_12_method_49_code
def yX10_exposed : MethodName := ⟨RX10, "exposed", "(I)I"⟩
abbrev cX10_match : ByteArray := prog_12_method_50_code
def yX10_match : MethodName := ⟨RX10, "match", "(I)I"⟩
abbrev cX10_has_ : ByteArray := prog_12_method_51_code
def yX10_has_ : MethodName := ⟨RX10, "has", "(III)I"⟩
abbrev cX10_costOf : ByteArray := prog_12_method_52_code
def yX10_costOf : MethodName := ⟨RX10, "costOf", "(II)I"⟩
abbrev cX10_cost : ByteArray := prog_12_method_53_code
def yX10_cost : MethodName := ⟨RX10, "cost", "(II)I"⟩
abbrev cX10_pick : ByteArray := prog_12_method_54_code
def yX10_pick : MethodName := ⟨RX10, "pick", "(I)I"⟩
abbrev cX10_most : ByteArray := prog_12_method_55_code
def yX10_most : MethodName := ⟨RX10, "most", "()I"⟩
abbrev cX10_either : ByteArray := prog_12_method_56_code
def yX10_either : MethodName := ⟨RX10, "either", "(III)I"⟩
abbrev cX10_middle : ByteArray := prog_12_method_57_code
def yX10_middle : MethodName := ⟨RX10, "middle", "(III)I"⟩
abbrev cX10_may : ByteArray := prog_12_method_58_code
def yX10_may : MethodName := ⟨RX10, "may", "(II)I"⟩
abbrev cX10_fixed : ByteArray := prog_12_method_59_code
def yX10_fixed : MethodName := ⟨RX10, "fixed", "()I"⟩
abbrev cX10_lies : ByteArray := prog_12_method_60_code
def yX10_lies : MethodName := ⟨RX10, "lies", "(II)V"⟩
abbrev cX10_swaps : ByteArray := prog_12_method_61_code
def yX10_swaps : MethodName := ⟨RX10, "swaps", "(II)V"⟩
abbrev cX10_lie : ByteArray := prog_12_method_62_code
def yX10_lie : MethodName := ⟨RX10, "lie", "(II)I"⟩
abbrev cX10_text : ByteArray := prog_12_method_63_code
def yX10_text : MethodName := ⟨RX10, "text", "(II)I"⟩
abbrev cX10_handLeft : ByteArray := prog_12_method_64_code
def yX10_handLeft : MethodName := ⟨RX10, "handLeft", "([II)I"⟩
abbrev cX10_gives : ByteArray := prog_12_method_65_code
def yX10_gives : MethodName := ⟨RX10, "gives", "([III)V"⟩
abbrev cX10_hand : ByteArray := prog_12_method_66_code
def yX10_hand : MethodName := ⟨RX10, "hand", "(II)I"⟩
abbrev cX10_handed : ByteArray := prog_12_method_67_code
def yX10_handed : MethodName := ⟨RX10, "handed", "(I)I"⟩
abbrev cX10_blocks : ByteArray := prog_12_method_68_code
def yX10_blocks : MethodName := ⟨RX10, "blocks", "([III)Z"⟩
abbrev cX10_firstBlocking : ByteArray := prog_12_method_69_code
def yX10_firstBlocking : MethodName := ⟨RX10, "firstBlocking", "([I)I"⟩
abbrev cX10_blocks_ : ByteArray := prog_12_method_70_code
def yX10_blocks_ : MethodName := ⟨RX10, "blocks", "()I"⟩
abbrev cX10_blocking : ByteArray := prog_12_method_71_code
def yX10_blocking : MethodName := ⟨RX10, "blocking", "()I"⟩
abbrev cX10_mended : ByteArray := prog_12_method_72_code
def yX10_mended : MethodName := ⟨RX10, "mended", "(I)I"⟩
abbrev cX10_known : ByteArray := prog_12_method_73_code
def yX10_known : MethodName := ⟨RX10, "known", "()I"⟩
abbrev cX10_image : ByteArray := prog_12_method_74_code
def yX10_image : MethodName := ⟨RX10, "image", "()I"⟩
abbrev cX10_back : ByteArray := prog_12_method_75_code
def yX10_back : MethodName := ⟨RX10, "back", "()I"⟩
abbrev cX10_count : ByteArray := prog_12_method_76_code
def yX10_count : MethodName := ⟨RX10, "count", "(I)I"⟩
def RJ9 : String := "java/lang/Math"
abbrev cJ9_abs_0f7a4 : ByteArray := prog_13_method_59_code
def yJ9_abs_0f7a4 : MethodName := ⟨RJ9, "abs", "(I)I"⟩
abbrev cJ9_max_7cf53 : ByteArray := prog_13_method_65_code
def yJ9_max_7cf53 : MethodName := ⟨RJ9, "max", "(II)I"⟩
abbrev cJ9_min_7cf53 : ByteArray := prog_13_method_69_code
def yJ9_min_7cf53 : MethodName := ⟨RJ9, "min", "(II)I"⟩
abbrev cL_law : ByteArray := code
abbrev vwCl : List vw_C := [(RX0, TX0, 4), (RX1, TX1, 4), (RX2, TX2, 3), (RX3, TX3, 3), (RX4, TX4, 4), (RX5, TX5, 1), (RX6, TX6, 1), (RX7, TX7, 2), (RX8, TX8, 11), (RX9, TX9, 11), (RX10, TX10, 38)]
theorem qm_in {big : List Cond} (ws : List Cond) (ps : List Nat) (hp : ws = ps.filterMap (fun i => big[i]?)) : ∀ w ∈ ws, w ∈ big := by
  intro w hw
  rw [hp] at hw
  obtain ⟨i, -, hi⟩ := List.mem_filterMap.mp hw
  exact List.mem_of_getElem? hi
set_option maxRecDepth 20000 in
theorem inX0 : ∀ w ∈ wsX00, w ∈ lw_tbl := qm_in _ [172, 174, 176, 178] (by decide +kernel)
set_option maxRecDepth 20000 in
theorem inX1 : ∀ w ∈ wsX10, w ∈ lw_tbl := qm_in _ [135, 137, 139, 141] (by decide +kernel)
set_option maxRecDepth 20000 in
theorem inX2 : ∀ w ∈ wsX20, w ∈ lw_tbl := qm_in _ [263, 265, 267] (by decide +kernel)
set_option maxRecDepth 20000 in
theorem inX3 : ∀ w ∈ wsX30, w ∈ lw_tbl := qm_in _ [116, 118, 120] (by decide +kernel)
set_option maxRecDepth 20000 in
theorem inX4 : ∀ w ∈ wsX40, w ∈ lw_tbl := qm_in _ [239, 241, 243, 245] (by decide +kernel)
set_option maxRecDepth 20000 in
theorem inX5 : ∀ w ∈ wsX50, w ∈ lw_tbl := qm_in _ [163] (by decide +kernel)
set_option maxRecDepth 20000 in
theorem inX6 : ∀ w ∈ wsX60, w ∈ lw_tbl := qm_in _ [94] (by decide +kernel)
set_option maxRecDepth 20000 in
theorem inX7 : ∀ w ∈ wsX70, w ∈ lw_tbl := qm_in _ [100, 102] (by decide +kernel)
set_option maxRecDepth 20000 in
theorem inX8 : ∀ w ∈ wsX80, w ∈ lw_tbl := qm_in _ [202, 204, 206, 208, 210, 212, 214, 216, 218, 220, 222] (by decide +kernel)
set_option maxRecDepth 20000 in
theorem inX9 : ∀ w ∈ wsX90, w ∈ lw_tbl := qm_in _ [312, 314, 316, 318, 320, 322, 324, 326, 328, 330, 332] (by decide +kernel)
set_option maxRecDepth 20000 in
theorem inX10 : ∀ w ∈ wsX100, w ∈ lw_tbl := qm_in _ [923, 925, 927, 929, 931, 933, 935, 937, 939, 941, 943, 945, 947, 949, 951, 953, 955, 957, 959, 961, 963, 965, 967, 969, 971, 973, 975, 977, 979, 981, 983, 985, 987, 989, 991, 993, 995, 997] (by decide +kernel)
end
section
/-! The abstract machine: values are whole numbers and places in a layout; what a step asks is said as a proposition. -/
abbrev qm_V : Type := Int ⊕ Option Nat
abbrev qm_E : Type := Nat ⊕ (Nat × List (Option (Option Nat)))
abbrev qm_L : Type := List qm_E
abbrev qm_M : Type := Nat → Nat → Int
abbrev qm_X : Type := Nat → List (Option qm_V) → List qm_V → qm_L → qm_M → Nat → Nat → Prop
abbrev qm_K : Type := qm_V → qm_L → qm_M → Prop
abbrev qm_C : Type := Nat → List qm_V → qm_L → qm_M → qm_K → Prop
/-- pc, instruction, its length, the targets of its jumps -/
abbrev qm_I : Type := Nat × Instr × Nat × List Nat
/-- fields: index; kind of object, place, type (0 int, 1 boolean, 2 a reference), place of the word -/
abbrev qm_GF : Type := List (Nat × Nat × Nat × Nat × Nat)
/-- new: index; kind of object, places of the words -/
abbrev qm_NW : Type := List (Nat × Nat × List Nat)
/-- calls: index; method, how many arguments, kind of the first one, whether it answers, cells, slots, places of the words -/
abbrev qm_MT : Type := List (Nat × Nat × Nat × Nat × Nat × Nat × Nat × List Nat)
abbrev qm_S : Type := Option (Nat × (Nat → Int))
/-- a method: fields, new, calls; code; what it answers (0 nothing, 1 int, 2 boolean, 3 a reference); cells, slots; the script -/
abbrev qm_MI : Type := (qm_GF × qm_NW × qm_MT) × List qm_I × Nat × Nat × Nat × qm_S
def qm_lk {α : Type} (k : Nat) : List (Nat × α) → Option α
  | [] => none
  | e :: l => cond (Nat.beq e.1 k) (some e.2) (qm_lk k l)
def qm_u (M : qm_M) (o k : Nat) (v : Int) : qm_M := fun a b => if a = o then (if b = k then v else M a b) else M a b
def qm_z (M : qm_M) (o : Nat) : qm_M := fun a b => if a = o then 0 else M a b
def qm_R (x : Int) : Prop := -2147483648 ≤ x ∧ x ≤ 2147483647
def qm_isI (L : qm_L) (o ci k : Nat) : Prop := ∃ fs, L[o]? = some (.inr (ci, fs)) ∧ fs[k]? = some none
def qm_isF (L : qm_L) (o ci k r : Nat) : Prop := ∃ fs, L[o]? = some (.inr (ci, fs)) ∧ fs[k]? = some (some (some r))
def qm_isO (L : qm_L) (o ci : Nat) : Prop := ∃ fs, L[o]? = some (.inr (ci, fs))
def qm_isA (L : qm_L) (o n : Nat) : Prop := L[o]? = some (.inl n)
def qm_and (a b : Int) : Int := (Int32.ofInt a &&& Int32.ofInt b).toInt
def qm_or (a b : Int) : Int := (Int32.ofInt a ||| Int32.ofInt b).toInt
def qm_xor (a b : Int) : Int := (Int32.ofInt a ^^^ Int32.ofInt b).toInt
def qm_shl (a b : Int) : Int := (Int32.ofInt a <<< (Int32.ofInt b &&& 31)).toInt
def qm_shr (a b : Int) : Int := (Int32.ofInt a >>> (Int32.ofInt b &&& 31)).toInt
def qm_cmp (c : ClassFile.Cond) (a b : Int) : Prop := match c with
  | .eq => a = b
  | .ne => a ≠ b
  | .lt => a < b
  | .ge => b ≤ a
  | .gt => b < a
  | .le => a ≤ b
def qm_sw (a : Int) (X : Nat → Prop) (dflt : Nat) : List (Int × Nat) → Prop
  | [] => X dflt
  | e :: l => (a = e.1 → X e.2) ∧ (a ≠ e.1 → qm_sw a X dflt l)
def qm_keys (k : Nat) : List Nat → List (Int × Nat)
  | [] => []
  | t :: l => (Int.ofNat k, t) :: qm_keys (k + 1) l
def qm_zip : List (Int × Int) → List Nat → List (Int × Nat)
  | p :: l, t :: r => (p.1, t) :: qm_zip l r
  | _, _ => []
def qm_ti (st : List qm_V) (f : Int → List qm_V → Prop) : Prop := match st with
  | .inl a :: r => f a r
  | _ => False
def qm_tii (st : List qm_V) (f : Int → Int → List qm_V → Prop) : Prop := match st with
  | .inl b :: .inl a :: r => f a b r
  | _ => False
def qm_tr (st : List qm_V) (f : Nat → List qm_V → Prop) : Prop := match st with
  | .inr (some o) :: r => f o r
  | _ => False
def qm_li (ls : List (Option qm_V)) (k : Nat) (f : Int → Prop) : Prop := match ls[k]? with
  | some (some (.inl v)) => f v
  | _ => False
def qm_lr (ls : List (Option qm_V)) (k : Nat) (f : Option Nat → Prop) : Prop := match ls[k]? with
  | some (some (.inr v)) => f v
  | _ => False
/-- the kinds of objects: what their fields hold at first -/
def qm_df : List (List (Option (Option Nat))) := [[some none, some none, some none, none], [some none, none, none, none], [some none, some none, none], [some none, some none, none], [some none, none, some none, some none], [some none], [some none], [some none, none], [some none, some none, some none, some none, some none, some none, none, some none, some none, some none, some none], [some none, some none, some none, some none, some none, some none, some none, some none, some none, some none, none], []]
def qm_call (mi : qm_MI) (call : qm_C) (X : qm_X) (virt : Bool) (n : Nat) (e : Nat × Nat × Nat × Nat × Nat × Nat × List Nat) (pc : Nat) (ls : List (Option qm_V)) (st : List qm_V) (L : qm_L) (M : qm_M) (c s : Nat) : Prop :=
  cond (Nat.ble 9990 e.1) (cond (Nat.beq e.1 9999) (qm_tr st fun _ r => cond (Nat.ble r.length 8) (X (pc + n) ls r L M c s) False)
    (cond (Nat.beq e.1 9990) (qm_tii st fun a b r => cond (Nat.ble r.length 8) (X (pc + n) ls (.inl (max a b) :: r) L M c s) False)
    (cond (Nat.beq e.1 9991) (qm_tii st fun a b r => cond (Nat.ble r.length 8) (X (pc + n) ls (.inl (min a b) :: r) L M c s) False)
    (cond (Nat.beq e.1 9992) (qm_ti st fun a r => qm_R (-a) ∧ cond (Nat.ble r.length 8) (X (pc + n) ls (.inl (Int.ofNat a.natAbs) :: r) L M c s) False) False))))
    (cond (Nat.ble (c + e.2.2.2.2.1) mi.2.2.2.1 && Nat.ble (s + e.2.2.2.2.2.1) mi.2.2.2.2.1 && Nat.ble (st.drop e.2.1).length 8 && Nat.beq (st.take e.2.1).length e.2.1)
      ((cond virt (match (st.take e.2.1).reverse with
          | .inr (some o) :: _ => cond (Nat.beq e.2.2.1 98) True (qm_isO L o e.2.2.1)
          | _ => False) True) ∧
        call e.1 (st.take e.2.1).reverse L M (fun r L' M' => X (pc + n) ls (cond (Nat.beq e.2.2.2.1 0) (st.drop e.2.1) (r :: st.drop e.2.1)) L' M' (c + e.2.2.2.2.1) (s + e.2.2.2.2.2.1)))
      False)
def qm_ins (mi : qm_MI) (call : qm_C) (Q : qm_K) (X : qm_X) (i : Instr) (n : Nat) (ts : List Nat) (pc : Nat) (ls : List (Option qm_V)) (st : List qm_V) (L : qm_L) (M : qm_M) (c s : Nat) : Prop :=
  match i with
  | .iconst v => X (pc + n) ls (.inl v :: st) L M c s
  | .bipush v => X (pc + n) ls (.inl v :: st) L M c s
  | .sipush v => X (pc + n) ls (.inl v :: st) L M c s
  | .iload k => qm_li ls k fun v => X (pc + n) ls (.inl v :: st) L M c s
  | .iload_n k => qm_li ls k.val fun v => X (pc + n) ls (.inl v :: st) L M c s
  | .aload k => qm_lr ls k fun v => X (pc + n) ls (.inr v :: st) L M c s
  | .aload_n k => qm_lr ls k.val fun v => X (pc + n) ls (.inr v :: st) L M c s
  | .istore k => qm_ti st fun a r => X (pc + n) (ls.set k (some (.inl a))) r L M c s
  | .istore_n k => qm_ti st fun a r => X (pc + n) (ls.set k.val (some (.inl a))) r L M c s
  | .astore k => qm_tr st fun o r => X (pc + n) (ls.set k (some (.inr (some o)))) r L M c s
  | .astore_n k => qm_tr st fun o r => X (pc + n) (ls.set k.val (some (.inr (some o)))) r L M c s
  | .iinc k d => qm_li ls k fun v => qm_R (v + d) ∧ X (pc + n) (ls.set k (some (.inl (v + d)))) st L M c s
  | .iadd => qm_tii st fun a b r => qm_R (a + b) ∧ X (pc + n) ls (.inl (a + b) :: r) L M c s
  | .isub => qm_tii st fun a b r => qm_R (a - b) ∧ X (pc + n) ls (.inl (a - b) :: r) L M c s
  | .imul => qm_tii st fun a b r => qm_R (a * b) ∧ X (pc + n) ls (.inl (a * b) :: r) L M c s
  | .idiv => qm_tii st fun a b r => 0 < b ∧ X (pc + n) ls (.inl (a.tdiv b) :: r) L M c s
  | .irem => qm_tii st fun a b r => 0 < b ∧ X (pc + n) ls (.inl (a.tmod b) :: r) L M c s
  | .ineg => qm_ti st fun a r => qm_R (-a) ∧ X (pc + n) ls (.inl (-a) :: r) L M c s
  | .iand => qm_tii st fun a b r => X (pc + n) ls (.inl (qm_and a b) :: r) L M c s
  | .ior => qm_tii st fun a b r => X (pc + n) ls (.inl (qm_or a b) :: r) L M c s
  | .ixor => qm_tii st fun a b r => X (pc + n) ls (.inl (qm_xor a b) :: r) L M c s
  | .ishl => qm_tii st fun a b r => X (pc + n) ls (.inl (qm_shl a b) :: r) L M c s
  | .ishr => qm_tii st fun a b r => X (pc + n) ls (.inl (qm_shr a b) :: r) L M c s
  | .if_icmp cd _ => qm_tii st fun a b r => (qm_cmp cd a b → X (ts.getD 0 0) ls r L M c s) ∧ (¬ qm_cmp cd a b → X (pc + n) ls r L M c s)
  | .ifCond cd _ => qm_ti st fun a r => (qm_cmp cd a 0 → X (ts.getD 0 0) ls r L M c s) ∧ (¬ qm_cmp cd a 0 → X (pc + n) ls r L M c s)
  | .goto _ => X (ts.getD 0 0) ls st L M c s
  | .tableswitch _ _ _ _ => qm_ti st fun a r => qm_sw a (fun t => X t ls r L M c s) (ts.getD 0 0) (qm_keys 0 ts.tail)
  | .lookupswitch _ ps => qm_ti st fun a r => qm_sw a (fun t => X t ls r L M c s) (ts.getD 0 0) (qm_zip ps.toList ts.tail)
  | .getfield idx => match qm_lk idx mi.1.1 with
    | some e => qm_tr st fun o r => cond (Nat.beq e.2.2.1 2) (∃ f, qm_isF L o e.1 e.2.1 f ∧ X (pc + n) ls (.inr (some f) :: r) L M c s) (qm_isI L o e.1 e.2.1 ∧ X (pc + n) ls (.inl (M o e.2.1) :: r) L M c s)
    | none => False
  | .putfield idx => match qm_lk idx mi.1.1 with
    | some e => match st with
      | .inl v :: .inr (some o) :: r => cond (Nat.beq e.2.2.1 2) False (cond (Nat.beq e.2.2.1 1) ((v = 0 ∨ v = 1) ∧ qm_isI L o e.1 e.2.1 ∧ X (pc + n) ls r L (qm_u M o e.2.1 v) c s) (qm_isI L o e.1 e.2.1 ∧ X (pc + n) ls r L (qm_u M o e.2.1 v) c s))
      | .inr (some f) :: .inr (some o) :: r => cond (Nat.beq e.2.2.1 2) (∃ fs, L[o]? = some (.inr (e.1, fs)) ∧ (∃ g, fs[e.2.1]? = some (some g)) ∧ X (pc + n) ls r (L.set o (.inr (e.1, fs.set e.2.1 (some (some f))))) M c s) False
      | _ => False
    | none => False
  | .iaload => match st with
    | .inl i :: .inr (some o) :: r => ∃ m, qm_isA L o m ∧ 0 ≤ i ∧ i < (m : Int) ∧ X (pc + n) ls (.inl (M o i.toNat) :: r) L M c s
    | .inl i :: .inr none :: r => match mi.2.2.2.2.2 with
      | some sc => 0 ≤ i ∧ i < (sc.1 : Int) ∧ X (pc + n) ls (.inl (sc.2 i.toNat) :: r) L M c s
      | none => False
    | _ => False
  | .iastore => match st with
    | .inl v :: .inl i :: .inr (some o) :: r => ∃ m, qm_isA L o m ∧ 0 ≤ i ∧ i < (m : Int) ∧ X (pc + n) ls r L (qm_u M o i.toNat v) c s
    | _ => False
  | .arraylength => match st with
    | .inr (some o) :: r => ∃ m, qm_isA L o m ∧ m < 2147483648 ∧ X (pc + n) ls (.inl (m : Int) :: r) L M c s
    | .inr none :: r => match mi.2.2.2.2.2 with
      | some sc => X (pc + n) ls (.inl (sc.1 : Int) :: r) L M c s
      | none => False
    | _ => False
  | .new idx => match qm_lk idx mi.1.2.1 with
    | some e => cond (Nat.ble (c + 1) mi.2.2.2.1 && Nat.ble (s + (qm_df.getD e.1 []).length) mi.2.2.2.2.1) (X (pc + n) ls (.inr (some L.length) :: st) (L ++ [.inr (e.1, qm_df.getD e.1 [])]) (qm_z M L.length) (c + 1) (s + (qm_df.getD e.1 []).length)) False
    | none => False
  | .newarray .int => match st with
    | .inl (.ofNat m) :: r => Nat.ble m 100000 = true ∧ Nat.ble (c + 1) mi.2.2.2.1 = true ∧ Nat.ble (s + m) mi.2.2.2.2.1 = true ∧ X (pc + n) ls (.inr (some L.length) :: r) (L ++ [.inl m]) (qm_z M L.length) (c + 1) (s + m)
    | _ => False
  | .dup => match st with
    | a :: r => X (pc + n) ls (a :: a :: r) L M c s
    | _ => False
  | .pop => match st with
    | _ :: r => X (pc + n) ls r L M c s
    | _ => False
  | .dup2 => match st with
    | b :: a :: r => X (pc + n) ls (b :: a :: b :: a :: r) L M c s
    | _ => False
  | .invokevirtual idx => match qm_lk idx mi.1.2.2 with
    | some e => qm_call mi call X true n e pc ls st L M c s
    | none => False
  | .invokestatic idx => match qm_lk idx mi.1.2.2 with
    | some e => qm_call mi call X false n e pc ls st L M c s
    | none => False
  | .invokespecial idx => match qm_lk idx mi.1.2.2 with
    | some e => qm_call mi call X true n e pc ls st L M c s
    | none => False
  | .ireturn => match st with
    | [.inl v] => cond (Nat.beq mi.2.2.1 2) ((v = 0 ∨ v = 1) ∧ Q (.inl v) L M) (cond (Nat.beq mi.2.2.1 1) (Q (.inl v) L M) False)
    | _ => False
  | .return_ => match st with
    | [] => cond (Nat.beq mi.2.2.1 0) (Q (.inl 0) L M) False
    | _ => False
  | .areturn => match st with
    | [.inr (some o)] => cond (Nat.beq mi.2.2.1 3) (Q (.inr (some o)) L M) False
    | _ => False
  | _ => False
def qm_one (mi : qm_MI) (call : qm_C) (Q : qm_K) (X : qm_X) (pc : Nat) (ls : List (Option qm_V)) (st : List qm_V) (L : qm_L) (M : qm_M) (c s : Nat) : Prop :=
  match qm_lk pc mi.2.1 with
  | some e => qm_ins mi call Q X e.1 e.2.1 e.2.2 pc ls st L M c s
  | none => False
/-- from here the method comes to its end, with Q -/
def qm_TT (mi : qm_MI) (call : qm_C) (Q : qm_K) (pc : Nat) (ls : List (Option qm_V)) (st : List qm_V) (L : qm_L) (M : qm_M) (c s : Nat) : Prop :=
  ∀ X : qm_X, (∀ pc ls st L M c s, qm_one mi call Q X pc ls st L M c s → X pc ls st L M c s) → X pc ls st L M c s
def qm_mono (call : qm_C) : Prop := ∀ y a L M (K K' : qm_K), (∀ r L M, K r L M → K' r L M) → call y a L M K → call y a L M K'
theorem qm_ti_m {st : List qm_V} {f g : Int → List qm_V → Prop} (h : ∀ a r, f a r → g a r) (k : qm_ti st f) : qm_ti st g := by
  unfold qm_ti at *; split at k <;> simp_all
theorem qm_tii_m {st : List qm_V} {f g : Int → Int → List qm_V → Prop} (h : ∀ a b r, f a b r → g a b r) (k : qm_tii st f) : qm_tii st g := by
  unfold qm_tii at *; split at k <;> simp_all
theorem qm_tr_m {st : List qm_V} {f g : Nat → List qm_V → Prop} (h : ∀ a r, f a r → g a r) (k : qm_tr st f) : qm_tr st g := by
  unfold qm_tr at *; split at k <;> simp_all
theorem qm_li_m {ls : List (Option qm_V)} {k : Nat} {f g : Int → Prop} (h : ∀ a, f a → g a) (q : qm_li ls k f) : qm_li ls k g := by
  unfold qm_li at *; split at q <;> simp_all
theorem qm_lr_m {ls : List (Option qm_V)} {k : Nat} {f g : Option Nat → Prop} (h : ∀ a, f a → g a) (q : qm_lr ls k f) : qm_lr ls k g := by
  unfold qm_lr at *; split at q <;> simp_all
theorem qm_sw_m {a : Int} {X Y : Nat → Prop} (h : ∀ t, X t → Y t) (d : Nat) : ∀ l, qm_sw a X d l → qm_sw a Y d l
  | [], q => h _ q
  | _ :: l, q => ⟨fun e => h _ (q.1 e), fun e => qm_sw_m h d l (q.2 e)⟩
theorem qm_cond_m {b : Bool} {A B A' B' : Prop} (h1 : A → A') (h2 : B → B') (k : cond b A B) : cond b A' B' := by
  cases b
  · exact h2 k
  · exact h1 k
theorem qm_call_m {mi : qm_MI} {call : qm_C} {X Y : qm_X} (hc : qm_mono call) (h : ∀ pc ls st L M c s, X pc ls st L M c s → Y pc ls st L M c s) {virt : Bool} {n : Nat} {e : Nat × Nat × Nat × Nat × Nat × Nat × List Nat} {pc : Nat} {ls : List (Option qm_V)} {st : List qm_V} {L : qm_L} {M : qm_M} {c s : Nat}
    (k : qm_call mi call X virt n e pc ls st L M c s) : qm_call mi call Y virt n e pc ls st L M c s := by
  unfold qm_call at *
  refine qm_cond_m (fun k => qm_cond_m (fun k => qm_tr_m (fun _ _ k => qm_cond_m (fun k => h _ _ _ _ _ _ _ k) id k) k)
    (fun k => qm_cond_m (fun k => qm_tii_m (fun _ _ _ k => qm_cond_m (fun k => h _ _ _ _ _ _ _ k) id k) k)
    (fun k => qm_cond_m (fun k => qm_tii_m (fun _ _ _ k => qm_cond_m (fun k => h _ _ _ _ _ _ _ k) id k) k)
    (fun k => qm_cond_m (fun k => qm_ti_m (fun _ _ k => ⟨k.1, qm_cond_m (fun k => h _ _ _ _ _ _ _ k) id k.2⟩) k) id k) k) k) k) (fun k => qm_cond_m (fun k => ⟨k.1, hc _ _ _ _ _ _ (fun r L M k => h _ _ _ _ _ _ _ k) k.2⟩) id k) k
theorem qm_ins_m {mi : qm_MI} {call : qm_C} {Q Q' : qm_K} {X Y : qm_X} (hc : qm_mono call) (hQ : ∀ r L M, Q r L M → Q' r L M) (h : ∀ pc ls st L M c s, X pc ls st L M c s → Y pc ls st L M c s) {i : Instr} {n : Nat} {ts : List Nat} {pc : Nat} {ls : List (Option qm_V)} {st : List qm_V} {L : qm_L} {M : qm_M} {c s : Nat}
    (k : qm_ins mi call Q X i n ts pc ls st L M c s) : qm_ins mi call Q' Y i n ts pc ls st L M c s := by
  unfold qm_ins at *
  split at k
  case h_1 | h_2 | h_3 | h_26 => exact h _ _ _ _ _ _ _ k
  case h_4 | h_5 => exact qm_li_m (fun _ k => h _ _ _ _ _ _ _ k) k
  case h_6 | h_7 => exact qm_lr_m (fun _ k => h _ _ _ _ _ _ _ k) k
  case h_8 | h_9 => exact qm_ti_m (fun _ _ k => h _ _ _ _ _ _ _ k) k
  case h_10 | h_11 => exact qm_tr_m (fun _ _ k => h _ _ _ _ _ _ _ k) k
  case h_12 => exact qm_li_m (fun _ k => ⟨k.1, h _ _ _ _ _ _ _ k.2⟩) k
  case h_13 | h_14 | h_15 | h_16 | h_17 => exact qm_tii_m (fun _ _ _ k => ⟨k.1, h _ _ _ _ _ _ _ k.2⟩) k
  case h_18 => exact qm_ti_m (fun _ _ k => ⟨k.1, h _ _ _ _ _ _ _ k.2⟩) k
  case h_19 | h_20 | h_21 | h_22 | h_23 => exact qm_tii_m (fun _ _ _ k => h _ _ _ _ _ _ _ k) k
  case h_24 => exact qm_tii_m (fun _ _ _ k => ⟨fun q => h _ _ _ _ _ _ _ (k.1 q), fun q => h _ _ _ _ _ _ _ (k.2 q)⟩) k
  case h_25 => exact qm_ti_m (fun _ _ k => ⟨fun q => h _ _ _ _ _ _ _ (k.1 q), fun q => h _ _ _ _ _ _ _ (k.2 q)⟩) k
  case h_27 | h_28 => exact qm_ti_m (fun _ _ k => qm_sw_m (fun t k => h _ _ _ _ _ _ _ k) _ _ k) k
  case h_29 =>
    split at k
    · exact qm_tr_m (fun _ _ k => qm_cond_m (fun ⟨f, a, b⟩ => ⟨f, a, h _ _ _ _ _ _ _ b⟩) (fun k => ⟨k.1, h _ _ _ _ _ _ _ k.2⟩) k) k
    · exact k
  case h_30 =>
    split at k
    · split at k
      · exact qm_cond_m id (fun k => qm_cond_m (fun k => ⟨k.1, k.2.1, h _ _ _ _ _ _ _ k.2.2⟩) (fun k => ⟨k.1, h _ _ _ _ _ _ _ k.2⟩) k) k
      · exact qm_cond_m (fun ⟨f, a, b, d⟩ => ⟨f, a, b, h _ _ _ _ _ _ _ d⟩) id k
      · exact k
    · exact k
  case h_31 =>
    split at k
    · obtain ⟨m, a, b, d, e⟩ := k
      exact ⟨m, a, b, d, h _ _ _ _ _ _ _ e⟩
    · split at k
      · exact ⟨k.1, k.2.1, h _ _ _ _ _ _ _ k.2.2⟩
      · exact k
    · exact k
  case h_32 =>
    split at k
    · obtain ⟨m, a, b, d, e⟩ := k
      exact ⟨m, a, b, d, h _ _ _ _ _ _ _ e⟩
    · exact k
  case h_33 =>
    split at k
    · obtain ⟨m, a, b, e⟩ := k
      exact ⟨m, a, b, h _ _ _ _ _ _ _ e⟩
    · split at k
      · exact h _ _ _ _ _ _ _ k
      · exact k
    · exact k
  case h_34 =>
    split at k
    · exact qm_cond_m (fun k => h _ _ _ _ _ _ _ k) id k
    · exact k
  case h_35 =>
    split at k
    · exact ⟨k.1, k.2.1, k.2.2.1, h _ _ _ _ _ _ _ k.2.2.2⟩
    · exact k
  case h_36 =>
    split at k
    · exact h _ _ _ _ _ _ _ k
    · exact k
  case h_37 =>
    split at k
    · exact h _ _ _ _ _ _ _ k
    · exact k
  case h_38 =>
    split at k
    · exact h _ _ _ _ _ _ _ k
    · exact k
  case h_39 =>
    split at k
    · exact qm_call_m hc h k
    · exact k
  case h_40 =>
    split at k
    · exact qm_call_m hc h k
    · exact k
  case h_41 =>
    split at k
    · exact qm_call_m hc h k
    · exact k
  case h_42 =>
    split at k
    · exact qm_cond_m (fun k => ⟨k.1, hQ _ _ _ k.2⟩) (fun k => qm_cond_m (fun k => hQ _ _ _ k) id k) k
    · exact k
  case h_43 =>
    split at k
    · exact qm_cond_m (fun k => hQ _ _ _ k) id k
    · exact k
  case h_44 =>
    split at k
    · exact qm_cond_m (fun k => hQ _ _ _ k) id k
    · exact k
  case h_45 => exact k
theorem qm_one_m {mi : qm_MI} {call : qm_C} {Q Q' : qm_K} {X Y : qm_X} (hc : qm_mono call) (hQ : ∀ r L M, Q r L M → Q' r L M) (h : ∀ pc ls st L M c s, X pc ls st L M c s → Y pc ls st L M c s) {pc : Nat} {ls : List (Option qm_V)} {st : List qm_V} {L : qm_L} {M : qm_M} {c s : Nat}
    (k : qm_one mi call Q X pc ls st L M c s) : qm_one mi call Q' Y pc ls st L M c s := by
  unfold qm_one at *
  split at k
  · exact qm_ins_m hc hQ h k
  · exact k
theorem qm_TT_m {mi : qm_MI} {call : qm_C} (hc : qm_mono call) {Q Q' : qm_K} (hQ : ∀ r L M, Q r L M → Q' r L M) {pc : Nat} {ls : List (Option qm_V)} {st : List qm_V} {L : qm_L} {M : qm_M} {c s : Nat}
    (k : qm_TT mi call Q pc ls st L M c s) : qm_TT mi call Q' pc ls st L M c s := fun X hX => k X fun pc ls st L M c s h => hX _ _ _ _ _ _ _ (qm_one_m hc hQ (fun _ _ _ _ _ _ _ h => h) h)
theorem qm_TT_fix {mi : qm_MI} {call : qm_C} (hc : qm_mono call) {Q : qm_K} {pc : Nat} {ls : List (Option qm_V)} {st : List qm_V} {L : qm_L} {M : qm_M} {c s : Nat}
    (k : qm_one mi call Q (qm_TT mi call Q) pc ls st L M c s) : qm_TT mi call Q pc ls st L M c s := fun X hX => hX _ _ _ _ _ _ _ (qm_one_m hc (fun _ _ _ h => h) (fun _ _ _ _ _ _ _ h => h X hX) k)
/-- calls of methods, by how deep they may go -/
def qm_Runs (P : Nat → qm_MI × Nat) : Nat → qm_C
  | 0 => fun _ _ _ _ _ => False
  | d + 1 => fun y a L M K => a.length ≤ (P y).2 ∧ qm_TT (P y).1 (qm_Runs P d) K 0 (a.map some ++ List.replicate ((P y).2 - a.length) none) [] L M 0 0
theorem qm_Runs_m (P : Nat → qm_MI × Nat) : ∀ d, qm_mono (qm_Runs P d)
  | 0 => fun _ _ _ _ _ _ _ k => k
  | d + 1 => fun _ _ _ _ _ _ h k => ⟨k.1, qm_TT_m (qm_Runs_m P d) h k.2⟩
/-- some steps at once, up to the places in 'cut' -/
def qm_wp (mi : qm_MI) (call : qm_C) (Q : qm_K) (cut : List Nat) (X : qm_X) : Nat → qm_X
  | 0 => X
  | f + 1 => fun pc ls st L M c s => qm_one mi call Q (fun pc ls st L M c s => cond (cut.any (Nat.beq pc)) (X pc ls st L M c s) (qm_wp mi call Q cut X f pc ls st L M c s)) pc ls st L M c s
theorem qm_wp_TT {P : Nat → qm_MI × Nat} {d : Nat} {mi : qm_MI} {Q : qm_K} (cut : List Nat) : ∀ (f : Nat) {pc : Nat} {ls : List (Option qm_V)} {st : List qm_V} {L : qm_L} {M : qm_M} {c s : Nat}, qm_wp mi (qm_Runs P d) Q cut (qm_TT mi (qm_Runs P d) Q) f pc ls st L M c s → qm_TT mi (qm_Runs P d) Q pc ls st L M c s
  | 0, _, _, _, _, _, _, _, k => k
  | f + 1, _, _, _, _, _, _, _, k => qm_TT_fix (qm_Runs_m P d) (qm_one_m (qm_Runs_m P d) (fun _ _ _ h => h) (fun pc ls st L M c s h => by
      cases hb : cut.any (Nat.beq pc) with
      | true => rw [hb] at h; exact h
      | false => rw [hb] at h; exact qm_wp_TT cut f h) k)
end
section
/-! What the machine's cells hold, read off the abstract state; one row an instruction. -/
theorem qm_ofR {x : Int} (h : qm_R x) : (Int32.ofInt x).toInt = x := Int32.toInt_ofInt_of_le (by have := h.1; omega) (by have := h.2; omega)
theorem qm_clR {x : Int} (h : qm_R x) : (Int32.ofInt x).toNatClampNeg = x.toNat := Int32.toNatClampNeg_ofInt_of_le (by have := h.1; omega) (by have := h.2; omega)
theorem qm_R32 (x : Int32) : qm_R x.toInt := ⟨by have := x.le_toInt; omega, by have := x.toInt_lt; omega⟩
theorem qm_eqR {x y : Int} (hx : qm_R x) (hy : qm_R y) : Int32.ofInt x = Int32.ofInt y ↔ x = y := by
  rw [← Int32.toInt_inj, qm_ofR hx, qm_ofR hy]
theorem qm_ltR {x y : Int} (hx : qm_R x) (hy : qm_R y) : Int32.ofInt x < Int32.ofInt y ↔ x < y := by
  rw [Int32.lt_iff_toInt_lt, qm_ofR hx, qm_ofR hy]
theorem qm_leR {x y : Int} (hx : qm_R x) (hy : qm_R y) : Int32.ofInt x ≤ Int32.ofInt y ↔ x ≤ y := by
  rw [Int32.le_iff_toInt_le, qm_ofR hx, qm_ofR hy]
theorem qm_tdR' {x y : Int} (hx : qm_R x) (h : 0 < y) : qm_R (x.tdiv y) := by
  have h1 : (x.tdiv y).natAbs ≤ x.natAbs := by
    rw [Int.natAbs_tdiv]
    exact Nat.div_le_self _ _
  rcases Int.lt_or_le x 0 with h0 | h0
  · have h2 : x.tdiv y = -((-x).tdiv y) := by rw [Int.neg_tdiv]; omega
    have h3 : 0 ≤ (-x).tdiv y := Int.tdiv_nonneg (by omega) (by omega)
    unfold qm_R at *
    omega
  · unfold qm_R at *
    omega
theorem qm_divR {x y : Int} (hx : qm_R x) (hy : qm_R y) (h : 0 < y) : Int32.ofInt x / Int32.ofInt y = Int32.ofInt (x.tdiv y) := by
  rw [← Int32.toInt_inj, Int32.toInt_div_of_ne_right _ _ (fun q => by
    have := congrArg Int32.toInt q
    rw [qm_ofR hy] at this
    have h1 : (-1 : Int32).toInt = -1 := by decide
    omega), qm_ofR hx, qm_ofR hy, qm_ofR (qm_tdR' hx h)]
theorem qm_tmR {x y : Int} (hy : qm_R y) (h : 0 < y) : qm_R (x.tmod y) := by
  have h1 := Int.tmod_lt_of_pos x h
  have h2 : -y < x.tmod y := by
    have := Int.lt_tmod_of_pos x h
    exact this
  unfold qm_R at *
  omega
theorem qm_remR {x y : Int} (hx : qm_R x) (hy : qm_R y) (h : 0 < y) : Int32.ofInt x - Int32.ofInt x / Int32.ofInt y * Int32.ofInt y = Int32.ofInt (x.tmod y) := by
  rw [qm_divR hx hy h, ← Int32.ofInt_mul, ← Int32.ofInt_sub]
  congr 1
  have := Int.tmod_add_tdiv_mul x y
  have h2 : x.tdiv y * y = y * x.tdiv y := Int.mul_comm _ _
  omega
def qm_cv (ad : Nat → Nat) (b : Nat) : qm_V → Value
  | .inl i => .int (Int32.ofInt i)
  | .inr none => .ref b
  | .inr (some o) => .ref (ad o)
def qm_fv (ad : Nat → Nat) (M : qm_M) (o k : Nat) : Option (Option Nat) → Value
  | none => .int (Int32.ofInt (M o k))
  | some none => .null
  | some (some r) => .ref (ad r)
def qm_ev (cA : ClassId) (ad : Nat → Nat) (M : qm_M) (o : Nat) : qm_E → va_E
  | .inl n => .inl (cA, n, .inl (fun j => Int32.ofInt (M o j)))
  | .inr q => .inr (q.1, q.2.mapIdx (fun k f => qm_fv ad M o k f))
def qm_w (cA : ClassId) (ad : Nat → Nat) (L : qm_L) (M : qm_M) : va_W := L.mapIdx (fun o e => (ad o, qm_ev cA ad M o e))
theorem qm_w_at (cA : ClassId) (ad : Nat → Nat) (L : qm_L) (M : qm_M) (o : Nat) : (qm_w cA ad L M)[o]? = (L[o]?).map (fun e => (ad o, qm_ev cA ad M o e)) := by
  simp [qm_w]
def qm_okV (L : qm_L) : qm_V → Prop
  | .inl i => qm_R i
  | .inr none => True
  | .inr (some o) => o < L.length
def qm_okM (M : qm_M) : Prop := ∀ o k, qm_R (M o k)
def qm_okE (n : Nat) (e : qm_E) : Prop := ∀ ci fs (k : Nat) r, e = .inr (ci, fs) → fs[k]? = some (some (some r)) → r < n
def qm_okL (L : qm_L) : Prop := ∀ (o : Nat) e, L[o]? = some e → qm_okE L.length e
theorem qm_okM_u {M : qm_M} {o k : Nat} {v : Int} (h : qm_okM M) (hv : qm_R v) : qm_okM (qm_u M o k v) := by
  intro a b
  unfold qm_u
  split
  · split
    · exact hv
    · exact h a b
  · exact h a b
theorem qm_okM_z {M : qm_M} {o : Nat} (h : qm_okM M) : qm_okM (qm_z M o) := by
  intro a b
  unfold qm_z
  split
  · exact ⟨by decide, by decide⟩
  · exact h a b
theorem qm_okV_le {L L' : qm_L} (h : L.length ≤ L'.length) {v : qm_V} (hv : qm_okV L v) : qm_okV L' v := by
  match v, hv with
  | .inl _, hv => exact hv
  | .inr none, _ => trivial
  | .inr (some o), hv => exact Nat.lt_of_lt_of_le hv h
theorem qm_cv_ext {L : qm_L} {ad ad' : Nat → Nat} (b : Nat) (h : ∀ k, k < L.length → ad' k = ad k) {v : qm_V} (hv : qm_okV L v) : qm_cv ad' b v = qm_cv ad b v := by
  match v, hv with
  | .inl _, _ => rfl
  | .inr none, _ => rfl
  | .inr (some o), hv => exact congrArg Value.ref (h o hv)
theorem qm_cv_map {L : qm_L} {ad ad' : Nat → Nat} (b : Nat) (h : ∀ k, k < L.length → ad' k = ad k) {st : List qm_V} (hv : ∀ v ∈ st, qm_okV L v) : st.map (qm_cv ad' b) = st.map (qm_cv ad b) :=
  List.map_congr_left fun v q => qm_cv_ext b h (hv v q)
theorem qm_cat (ad : Nat → Nat) (b : Nat) (v : qm_V) : (qm_cv ad b v).category = 1 := by
  match v with
  | .inl _ => rfl
  | .inr none => rfl
  | .inr (some o) => rfl
theorem qm_cats (ad : Nat → Nat) (b : Nat) (st : List qm_V) (n : Nat) (h : st.length ≤ n) : ((st.map (qm_cv ad b)).map fun v => v.category).sum ≤ n := by
  induction st generalizing n with
  | nil => exact Nat.zero_le _
  | cons v r ih =>
    simp only [List.map_cons, List.sum_cons, qm_cat]
    simp only [List.length_cons] at h
    have := ih (n - 1) (by omega)
    omega
/-- an element of an int array is stored -/
theorem qm_w_arr {cA : ClassId} {ad : Nat → Nat} {L : qm_L} {M : qm_M} {o n k : Nat} {v : Int} (h : L[o]? = some (.inl n)) : qm_w cA ad L (qm_u M o k v) = (qm_w cA ad L M).set o (ad o, .inl (cA, n, .inl (upd (fun j => Int32.ofInt (M o j)) k (Int32.ofInt v)))) := by
  apply List.ext_getElem?
  intro i
  rw [qm_w_at]
  by_cases hi : i = o
  · subst hi
    rw [List.getElem?_set_self (by rw [qm_w, List.length_mapIdx]; exact (List.getElem?_eq_some_iff.mp h).1), h]
    simp only [Option.map_some, qm_ev]
    congr 6
    funext j
    simp only [qm_u, upd, if_true]
    split <;> rfl
  · rw [List.getElem?_set_ne (Ne.symm hi), qm_w_at]
    congr 1
    funext e
    congr 1
    cases e with
    | inl n => simp [qm_ev, qm_u, hi]
    | inr q =>
      simp only [qm_ev]
      congr 3
      funext k2 f
      match f with
      | none => simp [qm_fv, qm_u, hi]
      | some none => rfl
      | some (some r) => rfl
theorem qm_w_int {cA : ClassId} {ad : Nat → Nat} {L : qm_L} {M : qm_M} {o ci k : Nat} {fs : List (Option (Option Nat))} {v : Int} (h : L[o]? = some (.inr (ci, fs))) (hk : fs[k]? = some none) : qm_w cA ad L (qm_u M o k v) = (qm_w cA ad L M).set o (ad o, .inr (ci, (fs.mapIdx (fun k f => qm_fv ad M o k f)).set k (.int (Int32.ofInt v)))) := by
  apply List.ext_getElem?
  intro i
  rw [qm_w_at]
  by_cases hi : i = o
  · subst hi
    rw [List.getElem?_set_self (by rw [qm_w, List.length_mapIdx]; exact (List.getElem?_eq_some_iff.mp h).1), h]
    simp only [Option.map_some, qm_ev]
    congr 4
    apply List.ext_getElem?
    intro j
    by_cases hj : j = k
    · subst hj
      rw [List.getElem?_set_self (by rw [List.length_mapIdx]; exact (List.getElem?_eq_some_iff.mp hk).1)]
      simp [hk, qm_fv, qm_u]
    · rw [List.getElem?_set_ne (Ne.symm hj)]
      simp only [List.getElem?_mapIdx]
      congr 1
      funext f
      match f with
      | none => simp [qm_fv, qm_u, hj]
      | some none => rfl
      | some (some r) => rfl
  · rw [List.getElem?_set_ne (Ne.symm hi), qm_w_at]
    congr 1
    funext e
    congr 1
    cases e with
    | inl n => simp [qm_ev, qm_u, hi]
    | inr q =>
      simp only [qm_ev]
      congr 3
      funext k2 f
      match f with
      | none => simp [qm_fv, qm_u, hi]
      | some none => rfl
      | some (some r) => rfl
theorem qm_w_ref {cA : ClassId} {ad : Nat → Nat} {L : qm_L} {M : qm_M} {o ci k f : Nat} {fs : List (Option (Option Nat))} (h : L[o]? = some (.inr (ci, fs))) (hk : k < fs.length) : qm_w cA ad (L.set o (.inr (ci, fs.set k (some (some f))))) M = (qm_w cA ad L M).set o (ad o, .inr (ci, (fs.mapIdx (fun k f => qm_fv ad M o k f)).set k (.ref (ad f)))) := by
  have hl := (List.getElem?_eq_some_iff.mp h).1
  apply List.ext_getElem?
  intro i
  rw [qm_w_at]
  by_cases hi : i = o
  · subst hi
    rw [List.getElem?_set_self hl, List.getElem?_set_self (by rw [qm_w, List.length_mapIdx]; exact hl)]
    simp only [Option.map_some, qm_ev]
    congr 4
    apply List.ext_getElem?
    intro j
    by_cases hj : j = k
    · subst hj
      rw [List.getElem?_set_self (by rw [List.length_mapIdx]; exact hk)]
      simp [hk, qm_fv]
    · rw [List.getElem?_set_ne (Ne.symm hj)]
      simp only [List.getElem?_mapIdx, List.getElem?_set_ne (Ne.symm hj)]
  · rw [List.getElem?_set_ne (Ne.symm hi), List.getElem?_set_ne (Ne.symm hi), qm_w_at]
theorem qm_ev_ext {cA : ClassId} {ad ad' : Nat → Nat} {M M' : qm_M} {n o : Nat} {e : qm_E} (ho : o < n) (h : ∀ k, k < n → ad' k = ad k) (hM : ∀ k, M' o k = M o k) (he : qm_okE n e) : qm_ev cA ad' M' o e = qm_ev cA ad M o e := by
  cases e with
  | inl m => simp [qm_ev, hM]
  | inr q =>
    obtain ⟨ci, fs⟩ := q
    simp only [qm_ev]
    congr 2
    apply List.ext_getElem?
    intro j
    simp only [List.getElem?_mapIdx]
    cases hj : fs[j]? with
    | none => rfl
    | some f =>
      match f, hj with
      | none, _ => simp [qm_fv, hM]
      | some none, _ => rfl
      | some (some r), hj => simp [qm_fv, h r (he ci fs j r rfl hj)]
theorem qm_w_ext {cA : ClassId} {ad ad' : Nat → Nat} {L : qm_L} {M M' : qm_M} (h : ∀ k, k < L.length → ad' k = ad k) (hM : ∀ o k, o < L.length → M' o k = M o k) (hL : qm_okL L) : qm_w cA ad' L M' = qm_w cA ad L M := by
  apply List.ext_getElem?
  intro i
  rw [qm_w_at, qm_w_at]
  cases hi : L[i]? with
  | none => rfl
  | some e =>
    have hl := (List.getElem?_eq_some_iff.mp hi).1
    simp only [Option.map_some]
    rw [h i hl, qm_ev_ext hl h (fun k => hM i k hl) (hL i e hi)]
theorem qm_w_push {cA : ClassId} {ad : Nat → Nat} {L : qm_L} {M : qm_M} (q : Nat) (e : qm_E) (hL : qm_okL L) (he : ∀ n, qm_okE n e) : qm_w cA (fun k => if k = L.length then q else ad k) (L ++ [e]) (qm_z M L.length) = qm_w cA ad L M ++ [(q, qm_ev cA ad (fun _ _ => 0) 0 e)] := by
  have h0 : qm_w cA (fun k => if k = L.length then q else ad k) L (qm_z M L.length) = qm_w cA ad L M :=
    qm_w_ext (fun k hk => by rw [if_neg (by omega)]) (fun o k ho => by unfold qm_z; rw [if_neg (by omega)]) hL
  rw [← h0]
  unfold qm_w
  rw [List.mapIdx_append]
  congr 1
  simp only [List.mapIdx_cons, List.mapIdx_nil, Nat.zero_add, if_true]
  congr 2
  cases e with
  | inl m => simp [qm_ev, qm_z]
  | inr x =>
    obtain ⟨ci, fs⟩ := x
    simp only [qm_ev]
    congr 2
    apply List.ext_getElem?
    intro j
    simp only [List.getElem?_mapIdx]
    cases hj : fs[j]? with
    | none => rfl
    | some f =>
      match f, hj with
      | none, _ => simp [qm_fv, qm_z]
      | some none, _ => rfl
      | some (some r), hj => exact absurd (he 0 ci fs j r rfl hj) (Nat.not_lt_zero _)
theorem qm_okL_push {L : qm_L} (e : qm_E) (hL : qm_okL L) (he : ∀ n, qm_okE n e) : qm_okL (L ++ [e]) := by
  intro o x h ci fs k r hx hk
  by_cases ho : o < L.length
  · rw [List.getElem?_append_left ho] at h
    have := hL o x h ci fs k r hx hk
    rw [List.length_append]
    omega
  · rw [List.getElem?_append_right (by omega)] at h
    have hm := List.mem_of_getElem? h
    rw [List.mem_singleton] at hm
    subst hm
    exact he _ ci fs k r hx hk
theorem qm_okL_set {L : qm_L} {o ci k f : Nat} {fs : List (Option (Option Nat))} (hL : qm_okL L) (h : L[o]? = some (.inr (ci, fs))) (hf : f < L.length) : qm_okL (L.set o (.inr (ci, fs.set k (some (some f))))) := by
  intro o2 x hx ci2 fs2 k2 r he hk
  rw [List.length_set]
  by_cases ho : o2 = o
  · subst ho
    rw [List.getElem?_set_self (List.getElem?_eq_some_iff.mp h).1] at hx
    cases hx
    cases he
    by_cases hk2 : k2 = k
    · subst hk2
      rw [List.getElem?_set] at hk
      simp only [if_true] at hk
      split at hk
      · cases hk; exact hf
      · cases hk
    · rw [List.getElem?_set_ne (Ne.symm hk2)] at hk
      exact hL o2 _ h ci fs k2 r rfl hk
  · rw [List.getElem?_set_ne (Ne.symm ho)] at hx
    exact hL o2 x hx ci2 fs2 k2 r he hk
end
section
/-! Each step of the abstract machine is one of the machine. -/
def qm_pl (ad : Nat → Nat) (b : Nat) (ls : List (Option qm_V)) : List (Nat × Value) := ls.zipIdx.filterMap (fun q => q.1.map (fun v => (q.2, qm_cv ad b v)))
theorem qm_pl_mem {ad : Nat → Nat} {b : Nat} {ls : List (Option qm_V)} {i : Nat} {w : Value} : (i, w) ∈ qm_pl ad b ls ↔ ∃ v, ls[i]? = some (some v) ∧ w = qm_cv ad b v := by
  unfold qm_pl
  rw [List.mem_filterMap]
  constructor
  · rintro ⟨⟨o, j⟩, h1, h2⟩
    have h3 := List.mk_mem_zipIdx_iff_getElem?.mp h1
    cases o with
    | none => simp at h2
    | some v =>
      simp only [Option.map_some, Option.some.injEq, Prod.mk.injEq] at h2
      obtain ⟨rfl, rfl⟩ := h2
      exact ⟨v, h3, rfl⟩
  · rintro ⟨v, h1, rfl⟩
    exact ⟨(some v, i), List.mk_mem_zipIdx_iff_getElem?.mpr h1, rfl⟩
def qm_LH (lsA : Array Slot) (nL : Nat) (ad : Nat → Nat) (b : Nat) (ls : List (Option qm_V)) : Prop := lsA.size = nL ∧ lv_wf lsA ∧ ∀ (i : Nat) (v : qm_V), ls[i]? = some (some v) → lsA[i]? = some (.val (qm_cv ad b v))
theorem qm_LH_has {lsA : Array Slot} {nL : Nat} {ad : Nat → Nat} {b : Nat} {ls : List (Option qm_V)} (h : qm_LH lsA nL ad b ls) : lv_has lsA nL (qm_pl ad b ls) :=
  ⟨h.1, h.2.1, fun ⟨i, w⟩ hq => by
    obtain ⟨v, h1, rfl⟩ := qm_pl_mem.mp hq
    exact h.2.2 i v h1⟩
theorem qm_LH_set {lsA : Array Slot} {nL : Nat} {ad : Nat → Nat} {b : Nat} {ls : List (Option qm_V)} {i : Nat} {v : qm_V} (h : lv_has lsA nL ((i, qm_cv ad b v) :: (qm_pl ad b ls).filter (fun q => !(q.1 == i) && !(q.1 + 1 == i && q.2.category == 2)))) : qm_LH lsA nL ad b (ls.set i (some v)) := by
  refine ⟨h.1, h.2.1, fun j w hw => ?_⟩
  by_cases hj : j = i
  · subst hj
    rw [List.getElem?_set] at hw
    simp only [if_true] at hw
    split at hw
    · cases hw
      exact h.2.2 (j, qm_cv ad b v) List.mem_cons_self
    · cases hw
  · rw [List.getElem?_set_ne (Ne.symm hj)] at hw
    refine h.2.2 (j, qm_cv ad b w) (List.mem_cons_of_mem _ (List.mem_filter.mpr ⟨qm_pl_mem.mpr ⟨w, hw, rfl⟩, ?_⟩))
    simp [hj, qm_cat]
theorem qm_LH_ext {L : qm_L} {lsA : Array Slot} {nL : Nat} {ad ad' : Nat → Nat} {b : Nat} {ls : List (Option qm_V)} (h : qm_LH lsA nL ad b ls) (he : ∀ k, k < L.length → ad' k = ad k) (ho : ∀ (i : Nat) v, ls[i]? = some (some v) → qm_okV L v) : qm_LH lsA nL ad' b ls :=
  ⟨h.1, h.2.1, fun i v hv => by rw [qm_cv_ext b he (ho i v hv)]; exact h.2.2 i v hv⟩
/-- method: class, name, bytes, locals, what it answers -/
abbrev qm_Y : Type := String × MethodName × ByteArray × Nat × Option FieldType
def qm_isRef (t : FieldType) : Bool := match t with
  | .object _ => true
  | .array _ => true
  | _ => false
def qm_okF (own : String) (e : Nat × Nat × Nat × Nat × Nat) : Bool := match vwCl[e.2.1]? with
  | some r => decide (e.2.2.1 < r.2.2) && decide (lw_tbl[e.2.2.2.2]? = some (Cond.fieldLink own e.1 (r.2.1 e.2.2.1).1 (r.2.1 e.2.2.1).2.1 (r.2.1 e.2.2.1).2.2.1)) && (!(r.2.1 e.2.2.1).2.2.2 || decide ((r.2.1 e.2.2.1).1 = own)) &&
    (match parseFieldDescriptor (r.2.1 e.2.2.1).2.2.1 with
      | some t => cond (Nat.beq e.2.2.2.1 2) (qm_isRef t) (cond (Nat.beq e.2.2.2.1 1) (decide (t = .boolean)) (Nat.beq e.2.2.2.1 0 && decide (t = .int)))
      | none => false)
  | none => false
def qm_okN (own : String) (e : Nat × Nat × List Nat) : Bool := match vwCl[e.2.1]?, e.2.2 with
  | some r, [p1, p2, p3] => decide (lw_tbl[p1]? = some (Cond.classLink own e.1 r.1)) && decide (lw_tbl[p2]? = some (Cond.instantiable r.1 r.2.2)) && decide (lw_tbl[p3]? = some (Cond.initialized r.1)) &&
    Nat.beq (qm_df.getD e.2.1 []).length r.2.2 && (List.range r.2.2).all (fun k => match parseFieldDescriptor (r.2.1 k).2.2.1, (qm_df.getD e.2.1 [])[k]? with
      | some t, some (some none) => qm_isRef t
      | some t, some none => decide (t = .int ∨ t = .boolean)
      | _, _ => false)
  | _, _ => false
def qm_okC (I : Nat → qm_Y) (P : Nat → qm_MI × Nat) (own : String) (e : Nat × Nat × Nat × Nat × Nat × Nat × Nat × List Nat) : Bool :=
  cond (Nat.ble 9990 e.2.1) (cond (Nat.beq e.2.1 9999) (match e.2.2.2.2.2.2.2 with
    | [p1, p2, p3] => decide (lw_tbl[p1]? = some (Cond.methodLink own e.1 Lib.objectInit)) && decide (lw_tbl[p2]? = some (Cond.instanceMethod Lib.objectInit)) && decide (lw_tbl[p3]? = some (Cond.code Lib.objectInit ⟨#[0xb1]⟩ 1 none))
    | _ => false)
  (match e.2.2.2.2.2.2.2 with
    | [p1, p2, p3, p4] => decide (lw_tbl[p3]? = some (Cond.initialized "java/lang/Math")) &&
      cond (Nat.beq e.2.1 9990) (decide (lw_tbl[p1]? = some (Cond.methodLink own e.1 Lib.Math.max.name)) && decide (lw_tbl[p2]? = some (Cond.static Lib.Math.max.name)) && decide (lw_tbl[p4]? = some (Cond.code Lib.Math.max.name Lib.Math.max.code 2 (some .int))))
      (cond (Nat.beq e.2.1 9991) (decide (lw_tbl[p1]? = some (Cond.methodLink own e.1 Lib.Math.min.name)) && decide (lw_tbl[p2]? = some (Cond.static Lib.Math.min.name)) && decide (lw_tbl[p4]? = some (Cond.code Lib.Math.min.name Lib.Math.min.code 2 (some .int))))
      (cond (Nat.beq e.2.1 9992) (decide (lw_tbl[p1]? = some (Cond.methodLink own e.1 Lib.Math.abs.name)) && decide (lw_tbl[p2]? = some (Cond.static Lib.Math.abs.name)) && decide (lw_tbl[p4]? = some (Cond.code Lib.Math.abs.name Lib.Math.abs.code 1 (some .int)))) false))
    | _ => false))
  (match e.2.2.2.2.2.2.2 with
    | [p1, p2, p3, p4, p5] => decide (lw_tbl[p1]? = some (Cond.methodLink own e.1 (I e.2.1).2.1)) && decide (lw_tbl[p2]? = some (Cond.code (I e.2.1).2.1 (I e.2.1).2.2.1 (I e.2.1).2.2.2.1 (I e.2.1).2.2.2.2)) && decide (lw_tbl[p3]? = some (Cond.initialized (I e.2.1).2.1.cls)) &&
      decide ((I e.2.1).2.1.cls ≠ "java/lang/invoke/MethodHandle") && decide ((I e.2.1).2.1.cls ≠ "java/lang/invoke/VarHandle") && Nat.beq e.2.2.2.2.1 (cond (Nat.beq (P e.2.1).1.2.2.1 0) 0 1) && Nat.beq e.2.2.2.2.2.1 (P e.2.1).1.2.2.2.1 && Nat.beq e.2.2.2.2.2.2.1 (P e.2.1).1.2.2.2.2.1 && Nat.ble (I e.2.1).2.2.2.1 40 && Nat.beq (P e.2.1).2 (I e.2.1).2.2.2.1 &&
      cond (Nat.beq e.2.2.2.1 99) (decide (lw_tbl[p4]? = some (Cond.static (I e.2.1).2.1)) && decide ((parseMethodDescriptor (I e.2.1).2.1.desc).map (fun d => d.parameters.length) = some e.2.2.1))
        (decide (lw_tbl[p4]? = some (Cond.instanceMethod (I e.2.1).2.1)) && Nat.blt 0 e.2.2.1 && decide ((parseMethodDescriptor (I e.2.1).2.1.desc).map (fun d => d.parameters.length) = some (e.2.2.1 - 1)) &&
          cond (Nat.beq e.2.2.2.1 98) (decide ((I e.2.1).2.1.name = "<init>") && decide ((I e.2.1).2.2.2.2 = none))
            (decide (lw_tbl[p5]? = some (Cond.selects (I e.2.1).2.1.cls (I e.2.1).2.1 (I e.2.1).2.1)) && (match vwCl[e.2.2.2.1]? with
              | some r => decide (r.1 = (I e.2.1).2.1.cls)
              | none => false)))
    | _ => false)
def qm_off (pc : Nat) (off : Int) (t : Nat) : Bool := decide ((pc : Int) + off = (t : Int))
/-- an instruction is one that the machine has, its length and its targets are as they are told -/
def qm_chk (nL : Nat) (isInit : Bool) (mi : qm_MI) (e : qm_I) : Bool := match e.2.1 with
  | .iconst v => Nat.beq e.2.2.1 1 && decide (-1 ≤ v ∧ v ≤ 5)
  | .bipush v => Nat.beq e.2.2.1 2 && decide ((Int8.ofInt v).toInt32 = Int32.ofInt v ∧ -128 ≤ v ∧ v ≤ 127)
  | .sipush v => Nat.beq e.2.2.1 3 && decide ((Int16.ofInt v).toInt32 = Int32.ofInt v ∧ -32768 ≤ v ∧ v ≤ 32767)
  | .iload _ => Nat.beq e.2.2.1 2
  | .aload _ => Nat.beq e.2.2.1 2
  | .iload_n _ => Nat.beq e.2.2.1 1
  | .aload_n _ => Nat.beq e.2.2.1 1
  | .istore k => Nat.beq e.2.2.1 2 && Nat.blt k nL
  | .astore k => Nat.beq e.2.2.1 2 && Nat.blt k nL
  | .istore_n k => Nat.beq e.2.2.1 1 && Nat.blt k.val nL
  | .astore_n k => Nat.beq e.2.2.1 1 && Nat.blt k.val nL
  | .iinc k _ => Nat.beq e.2.2.1 3 && Nat.blt k nL
  | .if_icmp _ off => Nat.beq e.2.2.1 3 && qm_off e.1 off (e.2.2.2.getD 0 0)
  | .ifCond _ off => Nat.beq e.2.2.1 3 && qm_off e.1 off (e.2.2.2.getD 0 0)
  | .goto off => Nat.beq e.2.2.1 3 && qm_off e.1 off (e.2.2.2.getD 0 0)
  | .tableswitch d lo hi offs => decide (lo = 0) && decide (hi + 1 = Int.ofNat offs.size) && qm_off e.1 d (e.2.2.2.getD 0 0) && Nat.beq e.2.2.2.tail.length offs.size && (List.range offs.size).all (fun k => match offs[k]? with
      | some o => qm_off e.1 o (e.2.2.2.tail.getD k 0)
      | none => false)
  | .lookupswitch d ps => (ps.toList.zip (ps.toList.drop 1)).all (fun (a, next) => decide (a.1 < next.1)) && qm_off e.1 d (e.2.2.2.getD 0 0) && Nat.beq e.2.2.2.tail.length ps.toList.length && (List.range ps.toList.length).all (fun k => match ps.toList[k]? with
      | some o => qm_off e.1 o.2 (e.2.2.2.tail.getD k 0)
      | none => false)
  | .getfield _ => Nat.beq e.2.2.1 3
  | .putfield idx => Nat.beq e.2.2.1 3 && (match qm_lk idx mi.1.1 with
      | some f => (match vwCl[f.1]? with
        | some r => !(r.2.1 f.2.1).2.2.2 || isInit
        | none => false)
      | none => false)
  | .new _ => Nat.beq e.2.2.1 3
  | .newarray _ => Nat.beq e.2.2.1 2
  | .invokevirtual idx => Nat.beq e.2.2.1 3 && (match qm_lk idx mi.1.2.2 with
      | some f => Nat.blt f.2.2.1 90 && Nat.blt f.1 9990
      | none => false)
  | .invokestatic idx => Nat.beq e.2.2.1 3 && (match qm_lk idx mi.1.2.2 with
      | some f => Nat.beq f.2.2.1 99 && !(Nat.beq f.1 9999)
      | none => false)
  | .invokespecial idx => Nat.beq e.2.2.1 3 && (match qm_lk idx mi.1.2.2 with
      | some f => (Nat.beq f.2.2.1 98 && Nat.blt f.1 9990) || Nat.beq f.1 9999
      | none => false)
  | _ => Nat.beq e.2.2.1 1
def qm_Ok (I : Nat → qm_Y) (P : Nat → qm_MI × Nat) (own : String) (bytes : ByteArray) (nL : Nat) (isInit : Bool) (mi : qm_MI) : Prop :=
  (∀ e ∈ mi.2.1, decode bytes e.1 = .ok (e.2.1, e.2.2.1)) ∧ (∀ e ∈ mi.2.1, qm_chk nL isInit mi e = true) ∧ (∀ e ∈ mi.1.1, qm_okF own e = true) ∧ (∀ e ∈ mi.1.2.1, qm_okN own e = true) ∧ (∀ e ∈ mi.1.2.2, qm_okC I P own e = true)
theorem qm_lk_mem {α : Type} {k : Nat} {l : List (Nat × α)} {v : α} (h : qm_lk k l = some v) : (k, v) ∈ l := by
  induction l with
  | nil => cases h
  | cons e l ih =>
    unfold qm_lk at h
    cases hb : Nat.beq e.1 k with
    | true =>
      rw [hb] at h
      have h2 := Nat.eq_of_beq_eq_true hb
      cases h
      rw [← h2]
      exact List.mem_cons_self
    | false =>
      rw [hb] at h
      exact List.mem_cons_of_mem _ (ih h)
/-- the words that outlast a step -/
def qm_tb : List Cond := lw_tbl.filter goodWord
theorem qm_tb_in {w : Cond} (h : w ∈ lw_tbl) (hg : goodWord w = true) : w ∈ qm_tb := List.mem_filter.mpr ⟨h, hg⟩
theorem qm_tbl {i : Nat} {w : Cond} (h : lw_tbl[i]? = some w) (hg : goodWord w = true) : w ∈ qm_tb := qm_tb_in (List.mem_of_getElem? h) hg
theorem qm_uws {C : String} {T : u_T} {N : Nat} (h : ∀ w ∈ u_ws C T N, w ∈ lw_tbl) : ∀ w ∈ u_ws C T N, w ∈ qm_tb := by
  intro w hw
  refine qm_tb_in (h w hw) ?_
  obtain ⟨k, -, rfl⟩ := List.mem_map.mp hw
  unfold u_lay
  split <;> rfl
/-- every kind of objects: its words are there, its fields' types are read, their names differ -/
def qm_kind (r : vw_C) : Prop := (∀ w ∈ u_ws r.1 r.2.1 r.2.2, w ∈ qm_tb) ∧ (∃ ty0 : Nat → FieldType, ∀ k, k < r.2.2 → parseFieldDescriptor (r.2.1 k).2.2.1 = some (ty0 k)) ∧ ∀ a, a < r.2.2 → ∀ b, b < r.2.2 → a ≠ b → (r.2.1 a).2.1 ≠ (r.2.1 b).2.1
theorem qm_kinds {ci : Nat} {r : vw_C} (h : vwCl[ci]? = some r) : qm_kind r := by
  have hm := List.mem_of_getElem? h
  simp only [vwCl, List.mem_cons, List.not_mem_nil, or_false] at hm
  rcases hm with rfl | rfl | rfl | rfl | rfl | rfl | rfl | rfl | rfl | rfl | rfl
  · exact ⟨qm_uws inX0, ⟨_, tyX0_ok⟩, nmX0⟩
  · exact ⟨qm_uws inX1, ⟨_, tyX1_ok⟩, nmX1⟩
  · exact ⟨qm_uws inX2, ⟨_, tyX2_ok⟩, nmX2⟩
  · exact ⟨qm_uws inX3, ⟨_, tyX3_ok⟩, nmX3⟩
  · exact ⟨qm_uws inX4, ⟨_, tyX4_ok⟩, nmX4⟩
  · exact ⟨qm_uws inX5, ⟨_, tyX5_ok⟩, nmX5⟩
  · exact ⟨qm_uws inX6, ⟨_, tyX6_ok⟩, nmX6⟩
  · exact ⟨qm_uws inX7, ⟨_, tyX7_ok⟩, nmX7⟩
  · exact ⟨qm_uws inX8, ⟨_, tyX8_ok⟩, nmX8⟩
  · exact ⟨qm_uws inX9, ⟨_, tyX9_ok⟩, nmX9⟩
  · exact ⟨qm_uws inX10, ⟨_, tyX10_ok⟩, nmX10⟩
theorem qm_goodIn {ws : List Cond} (h : ∀ w ∈ ws, w ∈ qm_tb) : GoodIn qm_tb ws := fun w hw => ⟨h w hw, good_of_word (List.mem_filter.mp (h w hw)).2⟩
end
section
theorem qm_bf {a b : Nat} (h : a ≠ b) : Nat.beq a b = false := by
  cases q : Nat.beq a b with
  | false => rfl
  | true => exact absurd (Nat.eq_of_beq_eq_true q) h
section QS
variable {p : Program} {l : Launch} {e : Env} {R : Room} {s : State} {m : MethodId} {args : Array Value} {below : List Frame} {meth : Method} {c : Code} {Qw : State → Prop}
/-- what a frame knows all the while -/
def qm_Ctx (p : Program) (R : Room) (s : State) (m : MethodId) (args : Array Value) (meth : Method) (c : Code) (own : String) (bytes : ByteArray) (nL : Nat) (isInit : Bool) (mi : qm_MI) (D : va_G) (cA : ClassId) (b : Nat) (A : Nat → Prop) (d : Nat) : Prop :=
  p.tables.exec = Jvm.exec ∧ c.code = bytes ∧ c.maxLocals = nL ∧ s.vm.findClass own = some m.cls ∧ (∀ w ∈ qm_tb, w.before args s = true) ∧ va_K D vwCl [(cA, .int)] s ∧ (∀ q, s.heap.size ≤ q → A q) ∧
  (∀ sc, mi.2.2.2.2.2 = some sc → va_X b sc.1 (fun j => Int32.ofInt (sc.2 j)) s s.heap ∧ b < s.heap.size ∧ ¬ A b ∧ sc.1 < 2147483648 ∧ ∀ j, qm_R (sc.2 j)) ∧
  mi.2.2.2.1 ≤ R.cells ∧ mi.2.2.2.2.1 ≤ R.slots ∧ d + 1 ≤ R.frames ∧ 64 * d + 64 ≤ R.locals ∧ (isInit = true → meth.name = "<init>")
/-- what the heap is at a step -/
def qm_Wd (s : State) (mi : qm_MI) (D : va_G) (cA : ClassId) (A : Nat → Prop) (L0 : qm_L) (ad0 ad : Nat → Nat) (H : Heap) (locs : List Loc) (L : qm_L) (M : qm_M) (k n : Nat) : Prop :=
  qm_okL L ∧ qm_okM M ∧ va_P D vwCl (qm_w cA ad L M) H ∧ va_D A (qm_w cA ad L M) ∧ va_S A s.heap H locs ∧ k ≤ mi.2.2.2.1 ∧ n ≤ mi.2.2.2.2.1 ∧ (∀ i, i < L0.length → ad i = ad0 i) ∧ L0.length ≤ L.length
def qm_G (p : Program) (l : Launch) (e : Env) (R : Room) (s : State) (m : MethodId) (args : Array Value) (below : List Frame) (meth : Method) (c : Code) (Qw : State → Prop) (nL : Nat) (mi : qm_MI) (D : va_G) (cA : ClassId) (b : Nat) (A : Nat → Prop) (L0 : qm_L) (ad0 : Nat → Nat) : qm_X := fun pc ls st L M k n =>
  ∀ (ad : Nat → Nat) (H : Heap) (locs : List Loc) (lsA : Array Slot), qm_Wd s mi D cA A L0 ad0 ad H locs L M k n → (∀ v ∈ st, qm_okV L v) → (∀ (i : Nat) (v : qm_V), ls[i]? = some (some v) → qm_okV L v) → qm_LH lsA nL ad b ls →
    W p l e R s m args below meth c H locs k n Qw (F0 m pc lsA (st.map (qm_cv ad b)))
/-- what a return needs -/
def qm_Rt (rk : Nat) (i : Instr) (r : qm_V) (ad : Nat → Nat) (stk : List Value) : Prop :=
  (i = .ireturn ∧ ∃ v, r = .inl v ∧ stk = [.int (Int32.ofInt v)] ∧ ((rk = 2 ∧ (v = 0 ∨ v = 1)) ∨ rk = 1)) ∨ (i = .return_ ∧ rk = 0 ∧ r = .inl 0 ∧ stk = []) ∨ (i = .areturn ∧ rk = 3 ∧ ∃ o, r = .inr (some o) ∧ stk = [.ref (ad o)])
def qm_Ret (p : Program) (l : Launch) (e : Env) (R : Room) (s : State) (m : MethodId) (args : Array Value) (below : List Frame) (meth : Method) (c : Code) (Qw : State → Prop) (bytes : ByteArray) (mi : qm_MI) (D : va_G) (cA : ClassId) (A : Nat → Prop) (L0 : qm_L) (ad0 : Nat → Nat) (Q : qm_K) : Prop :=
  ∀ (pc : Nat) (i : Instr) (r : qm_V) (stk : List Value) (ad : Nat → Nat) (H : Heap) (locs : List Loc) (lsA : Array Slot) (L : qm_L) (M : qm_M) (k n : Nat), decode bytes pc = .ok (i, 1) → qm_Rt mi.2.2.1 i r ad stk → Q r L M → qm_okV L r → qm_Wd s mi D cA A L0 ad0 ad H locs L M k n →
    W p l e R s m args below meth c H locs k n Qw (F0 m pc lsA stk)
def qm_rm (d : Nat) (mi : qm_MI) : Room := { frames := d, cells := mi.2.2.2.1, slots := mi.2.2.2.2.1, locals := 64 * d }
def qm_ws (i : qm_Y) : List Cond := Cond.code i.2.1 i.2.2.1 i.2.2.2.1 i.2.2.2.2 :: qm_tb
def qm_Pc (D : va_G) (cA : ClassId) (ad : Nat → Nat) (b : Nat) (L : qm_L) (M : qm_M) (a : List qm_V) (sz : Nat) : Array Value → State → Prop := va_Pc (a.map (qm_cv ad b)) (fun U => U.heap.size = sz ∧ va_P D vwCl (qm_w cA ad L M) U.heap ∧ va_K D vwCl [(cA, .int)] U ∧ va_D (fun _ => True) (qm_w cA ad L M))
def qm_Qc (D : va_G) (cA : ClassId) (ad : Nat → Nat) (b : Nat) (L : qm_L) (M : qm_M) (sz : Nat) (K : qm_K) (rk : Nat) : Array Value → State → Outcome → State → Prop := fun _ st oc t =>
  (∃ (r : qm_V) (L' : qm_L) (M' : qm_M) (ad' : Nat → Nat), oc = .returned (cond (Nat.beq rk 0) none (some (qm_cv ad' b r))) ∧ K r L' M' ∧ qm_okV L' r ∧ (∀ i, i < L.length → ad' i = ad i) ∧ L.length ≤ L'.length ∧ qm_okL L' ∧ qm_okM M' ∧ va_P D vwCl (qm_w cA ad' L' M') t.heap ∧ va_D (va_A (qm_w cA ad L M) sz) (qm_w cA ad' L' M')) ∧ va_F (va_A (qm_w cA ad L M) sz) st t
def qm_Met (l : Launch) (I : Nat → qm_Y) (P : Nat → qm_MI × Nat) (d y : Nat) (a : List qm_V) (L : qm_L) (M : qm_M) (K : qm_K) : Prop :=
  ∀ (D : va_G) (cA : ClassId) (ad : Nat → Nat) (b sz : Nat), qm_okL L → qm_okM M → (∀ v ∈ a, qm_okV L v) →
    Met l (I y).2.1 (qm_ws (I y)) (qm_rm d (P y).1) (qm_Pc D cA ad b L M a sz) (qm_Qc D cA ad b L M sz K (P y).1.2.2.1) (P y).1.2.2.2.1 (P y).1.2.2.2.2.1 (va_A (qm_w cA ad L M) sz)
theorem qm_callX {H : Heap} {locs : List Loc} {cells slots mc ms pc : Nat} {ls : Array Slot} {rest st0 : List Value} {A0 A1 : Nat → Prop} {H0 : Heap} {free : Addr → Prop} {Qa : State → Outcome → State → Prop}
    (hr : va_Run p l e R s m args below meth c H locs cells slots mc ms (F0 m pc ls st0) rest Qa free) (hF : ∀ st t v, st.heap = H → Qa st (.returned v) t → va_F A1 st t) (hS : va_S A0 H0 H locs) (hA : ∀ q, q < H.size → A1 q → A0 q) (hf : ∀ q, free q → A0 q)
    (kk : ∀ (v : Option Value) (st₀ t : State) (locs1 : List Loc), st₀.heap = H → Qa st₀ (.returned v) t → va_S A0 H0 t.heap locs1 → W p l e R s m args below meth c t.heap locs1 (cells + mc) (slots + ms) Qw (F0 m (pc + 3) ls (v.toList ++ rest))) : W p l e R s m args below meth c H locs cells slots Qw (F0 m pc ls st0) := by
  intro T hT X
  obtain ⟨v, st₀, t, T', L, h0, X', hL, e1, e2, hq, st⟩ := hr T hT X
  obtain ⟨hz, hk⟩ := hF st₀ t v h0 hq
  rw [h0] at hz hk
  obtain ⟨t2, a1, b1⟩ := kk v st₀ t (locs ++ L) h0 hq
    ⟨Nat.le_trans hS.1 hz, fun q h1 h2 => by rw [hk q (Nat.lt_of_lt_of_le h1 hS.1) (fun z => h2 (hA q (Nat.lt_of_lt_of_le h1 hS.1) z))]; exact hS.2.1 q h1 h2, fun q hq => by
      rcases List.mem_append.mp hq with h | h
      · exact hS.2.2 q h
      · exact hf _ (hL q h)⟩ T' e1 X'
  exact ⟨t2, st t2 a1, b1⟩
variable {I : Nat → qm_Y} {P : Nat → qm_MI × Nat} {own : String} {bytes : ByteArray} {nL : Nat} {isInit : Bool} {mi : qm_MI} {D : va_G} {cA : ClassId} {b : Nat} {A : Nat → Prop} {d : Nat} {L0 : qm_L} {ad0 : Nat → Nat} {Q : qm_K}
theorem qm_w_get {cA : ClassId} {ad : Nat → Nat} {L : qm_L} {M : qm_M} {o : Nat} {e : qm_E} (h : L[o]? = some e) : (qm_w cA ad L M)[o]? = some (ad o, qm_ev cA ad M o e) := by
  rw [qm_w_at, h]; rfl
theorem qm_Wd_M {s : State} {ad : Nat → Nat} {H H1 : Heap} {locs locs1 : List Loc} {L : qm_L} {M M' : qm_M} {k n : Nat} (h : qm_Wd s mi D cA A L0 ad0 ad H locs L M k n) (hM : qm_okM M') (hP : va_P D vwCl (qm_w cA ad L M') H1) (hD : va_D A (qm_w cA ad L M')) (hS : va_S A s.heap H1 locs1) : qm_Wd s mi D cA A L0 ad0 ad H1 locs1 L M' k n :=
  ⟨h.1, hM, hP, hD, hS, h.2.2.2.2.2.1, h.2.2.2.2.2.2.1, h.2.2.2.2.2.2.2.1, h.2.2.2.2.2.2.2.2⟩
/-- a call, its contract at hand -/
theorem qm_simCall (C : qm_Ctx p R s m args meth c own bytes nL isInit mi D cA b A d) (IH : ∀ y a L M K, qm_Runs P d y a L M K → qm_Met l I P d y a L M K)
    {idx : Nat} {f : Nat × Nat × Nat × Nat × Nat × Nat × List Nat} (hf : qm_okC I P own (idx, f) = true) {i : Instr} {virt : Bool} (hi : (i = .invokevirtual idx ∧ virt = true ∧ f.2.2.1 < 90 ∧ f.1 < 9990) ∨ (i = .invokestatic idx ∧ virt = false ∧ f.2.2.1 = 99 ∧ f.1 ≠ 9999) ∨ (i = .invokespecial idx ∧ virt = true ∧ ((f.2.2.1 = 98 ∧ f.1 < 9990) ∨ f.1 = 9999)))
    {pc : Nat} (hd : decode bytes pc = .ok (i, 3)) {ls : List (Option qm_V)} {st : List qm_V} {L : qm_L} {M : qm_M} {k n : Nat}
    (h : qm_call mi (qm_Runs P d) (qm_G p l e R s m args below meth c Qw nL mi D cA b A L0 ad0) virt 3 f pc ls st L M k n) : qm_G p l e R s m args below meth c Qw nL mi D cA b A L0 ad0 pc ls st L M k n := by
  obtain ⟨hx, hb, hml, hown, hts, hK, hA, -, hRc, hRs, hRf, hRl, -⟩ := C
  obtain ⟨y, na, rc, kd, mc, ms, ps⟩ := f
  unfold qm_call at h
  simp only at h hi
  intro ad H locs lsA hw hst hls hl
  obtain ⟨hokL, hokM, hP, hD, hS, hkc, hks, hea, hel⟩ := id hw
  have hsize : (F0 m pc lsA (st.map (qm_cv ad b))).locals.size = nL := hl.1
  cases h9 : Nat.ble 9990 y with
  | true =>
    have h9' := Nat.le_of_ble_eq_true h9
    rw [h9] at h
    unfold qm_okC at hf
    rw [h9] at hf
    simp only [cond_true] at h hf
    cases h10 : Nat.beq y 9999 with
    | true =>
      have h10' := Nat.eq_of_beq_eq_true h10
      rcases hi with ⟨-, -, -, hn⟩ | ⟨-, -, -, hn⟩ | ⟨rfl, rfl, -⟩
      · omega
      · exact absurd h10' hn
      · rw [h10] at h hf
        simp only [cond_true] at h hf
        split at hf
        · rename_i p1 p2 p3 heq
          simp only [Bool.and_eq_true, decide_eq_true_eq] at hf
          obtain ⟨⟨w1, w2⟩, w3⟩ := hf
          unfold qm_tr at h
          split at h
          · rename_i o r
            cases h8 : Nat.ble r.length 8 with
            | false => rw [h8] at h; exact h.elim
            | true =>
              rw [h8] at h
              have h8' := Nat.le_of_ble_eq_true h8
              refine W.objInit hx hb hown (hts _ (qm_tbl w1 rfl)) (hts _ (qm_tbl w2 rfl)) (hts _ (qm_tbl w3 rfl)) rfl (hsize.trans hml.symm) rfl hd (by omega) ?_ ?_
              · have := qm_cats ad b r 8 h8'
                show 2 * 0 + _ + 12 ≤ _
                omega
              · exact h ad H locs lsA hw (fun v hv => hst v (List.mem_cons_of_mem _ hv)) hls hl
          · exact h.elim
        · cases hf
    | false =>
      have h10' := Nat.ne_of_beq_eq_false h10
      rw [h10] at h hf
      simp only [cond_false] at h hf
      rcases hi with ⟨-, -, -, hn⟩ | ⟨rfl, -, -, -⟩ | ⟨-, -, hn⟩
      · omega
      · split at hf
        · rename_i p1 p2 p3 p4 heq
          simp only [Bool.and_eq_true, decide_eq_true_eq] at hf
          obtain ⟨w3, hf⟩ := hf
          have hkk : k ≤ R.cells := Nat.le_trans hkc hRc
          have hnn : n ≤ R.slots := Nat.le_trans hks hRs
          cases m0 : Nat.beq y 9990 with
          | true =>
            rw [m0] at h hf
            simp only [cond_true, Bool.and_eq_true, decide_eq_true_eq] at h hf
            obtain ⟨⟨w1, w2⟩, w4⟩ := hf
            unfold qm_tii at h
            split at h
            · rename_i y2 x2 r
              have ry : qm_R y2 := hst _ List.mem_cons_self
              have rx : qm_R x2 := hst _ (List.mem_cons_of_mem _ List.mem_cons_self)
              cases h8 : Nat.ble r.length 8 with
              | false => rw [h8] at h; exact h.elim
              | true =>
                rw [h8] at h
                have h8' := qm_cats ad b r 8 (Nat.le_of_ble_eq_true h8)
                refine va_mmax hx hb (hml.trans hsize.symm) hown (hts _ (qm_tbl w1 rfl)) (hts _ (qm_tbl w2 rfl)) (hts _ (qm_tbl w3 rfl)) (hts _ (qm_tbl w4 rfl)) (by omega) (by omega) hkk hnn hd ?_
                have hgo := h ad H locs lsA hw (fun v hv => by
                  rcases List.mem_cons.mp hv with rfl | hv
                  · show qm_R _
                    unfold qm_R at *
                    omega
                  · exact hst v (List.mem_cons_of_mem _ (List.mem_cons_of_mem _ hv))) hls hl
                have he : (if Int32.ofInt x2 < Int32.ofInt y2 then Int32.ofInt y2 else Int32.ofInt x2) = Int32.ofInt (max x2 y2) := by
                  by_cases hc : x2 < y2
                  · rw [if_pos ((qm_ltR rx ry).mpr hc), show max x2 y2 = y2 by omega]
                  · rw [if_neg (fun z => hc ((qm_ltR rx ry).mp z)), show max x2 y2 = x2 by omega]
                rw [he]
                exact hgo
            · exact h.elim
          | false =>
            rw [m0] at h hf
            simp only [cond_false] at h hf
            cases m1 : Nat.beq y 9991 with
            | true =>
              rw [m1] at h hf
              simp only [cond_true, Bool.and_eq_true, decide_eq_true_eq] at h hf
              obtain ⟨⟨w1, w2⟩, w4⟩ := hf
              unfold qm_tii at h
              split at h
              · rename_i y2 x2 r
                have ry : qm_R y2 := hst _ List.mem_cons_self
                have rx : qm_R x2 := hst _ (List.mem_cons_of_mem _ List.mem_cons_self)
                cases h8 : Nat.ble r.length 8 with
                | false => rw [h8] at h; exact h.elim
                | true =>
                  rw [h8] at h
                  have h8' := qm_cats ad b r 8 (Nat.le_of_ble_eq_true h8)
                  refine va_mmin hx hb (hml.trans hsize.symm) hown (hts _ (qm_tbl w1 rfl)) (hts _ (qm_tbl w2 rfl)) (hts _ (qm_tbl w3 rfl)) (hts _ (qm_tbl w4 rfl)) (by omega) (by omega) hkk hnn hd ?_
                  have hgo := h ad H locs lsA hw (fun v hv => by
                    rcases List.mem_cons.mp hv with rfl | hv
                    · show qm_R _
                      unfold qm_R at *
                      omega
                    · exact hst v (List.mem_cons_of_mem _ (List.mem_cons_of_mem _ hv))) hls hl
                  have he : (if Int32.ofInt y2 < Int32.ofInt x2 then Int32.ofInt y2 else Int32.ofInt x2) = Int32.ofInt (min x2 y2) := by
                    by_cases hc : y2 < x2
                    · rw [if_pos ((qm_ltR ry rx).mpr hc), show min x2 y2 = y2 by omega]
                    · rw [if_neg (fun z => hc ((qm_ltR ry rx).mp z)), show min x2 y2 = x2 by omega]
                  rw [he]
                  exact hgo
              · exact h.elim
            | false =>
              rw [m1] at h hf
              simp only [cond_false] at h hf
              cases m2 : Nat.beq y 9992 with
              | true =>
                rw [m2] at h hf
                simp only [cond_true, Bool.and_eq_true, decide_eq_true_eq] at h hf
                obtain ⟨⟨w1, w2⟩, w4⟩ := hf
                unfold qm_ti at h
                split at h
                · rename_i x2 r
                  have rx : qm_R x2 := hst _ List.mem_cons_self
                  obtain ⟨hneg, h⟩ := h
                  cases h8 : Nat.ble r.length 8 with
                  | false => rw [h8] at h; exact h.elim
                  | true =>
                    rw [h8] at h
                    have h8' := qm_cats ad b r 8 (Nat.le_of_ble_eq_true h8)
                    refine va_mabs hx hb (hml.trans hsize.symm) hown (hts _ (qm_tbl w1 rfl)) (hts _ (qm_tbl w2 rfl)) (hts _ (qm_tbl w3 rfl)) (hts _ (qm_tbl w4 rfl)) (by omega) (by omega) hkk hnn hd ?_
                    have hab : Int.ofNat x2.natAbs = if 0 ≤ x2 then x2 else -x2 := by
                      show ((x2.natAbs : Nat) : Int) = _
                      split <;> omega
                    have hgo := h ad H locs lsA hw (fun v hv => by
                      rcases List.mem_cons.mp hv with rfl | hv
                      · show qm_R _
                        rw [hab]
                        split
                        · exact rx
                        · exact hneg
                      · exact hst v (List.mem_cons_of_mem _ hv)) hls hl
                    rw [hab] at hgo
                    have r0 : qm_R 0 := ⟨by decide, by decide⟩
                    by_cases hc : 0 ≤ x2
                    · rw [if_pos hc] at hgo
                      have hc2 : (0 : Int32) ≤ Int32.ofInt x2 := (qm_leR r0 rx).mpr hc
                      simp only [hc2, if_true]
                      exact hgo
                    · rw [if_neg hc] at hgo
                      have hc2 : ¬ (0 : Int32) ≤ Int32.ofInt x2 := fun z => hc ((qm_leR r0 rx).mp z)
                      simp only [hc2, if_false]
                      simp only [List.map_cons, qm_cv, Int32.ofInt_neg] at hgo
                      exact hgo
                · exact h.elim
              | false =>
                rw [m2] at h
                exact h.elim
        · cases hf
      · rcases hn with hn | hn
        · omega
        · exact absurd hn h10'
  | false =>
    rw [h9] at h
    unfold qm_okC at hf
    rw [h9] at hf
    simp only [cond_false] at h hf
    split at hf
    · rename_i p1 p2 p3 p4 p5 heq
      simp only [Bool.and_eq_true, decide_eq_true_eq] at hf
      obtain ⟨⟨⟨⟨⟨⟨⟨⟨⟨⟨w1, w2⟩, w3⟩, n1⟩, n2⟩, q1⟩, q2⟩, q3⟩, q4⟩, q5⟩, q6⟩ := hf
      have q1 := Nat.eq_of_beq_eq_true q1
      have q2 := Nat.eq_of_beq_eq_true q2
      have q3 := Nat.eq_of_beq_eq_true q3
      have q4 := Nat.le_of_ble_eq_true q4
      subst q1 q2 q3
      cases hbb : (Nat.ble (k + (P y).1.2.2.2.1) mi.2.2.2.1 && Nat.ble (n + (P y).1.2.2.2.2.1) mi.2.2.2.2.1 && Nat.ble (st.drop na).length 8 && Nat.beq (st.take na).length na) with
      | false => rw [hbb] at h; exact h.elim
      | true =>
        rw [hbb] at h
        simp only [cond_true] at h
        simp only [Bool.and_eq_true] at hbb
        obtain ⟨⟨⟨b1, b2⟩, b3⟩, b4⟩ := hbb
        have b1 := Nat.le_of_ble_eq_true b1
        have b2 := Nat.le_of_ble_eq_true b2
        have b3 := Nat.le_of_ble_eq_true b3
        have b4 := Nat.eq_of_beq_eq_true b4
        obtain ⟨hv, hcall⟩ := h
        generalize has : (st.take na).reverse = as at hv hcall
        have hlen : as.length = na := by rw [← has, List.length_reverse]; exact b4
        have hokA : ∀ v ∈ as, qm_okV L v := fun v hv => hst v (List.mem_of_mem_take (List.mem_reverse.mp (by rw [has]; exact hv)))
        have hstk : st.map (qm_cv ad b) = (as.map (qm_cv ad b)).reverse ++ (st.drop na).map (qm_cv ad b) := by
          rw [← has, ← List.map_reverse, List.reverse_reverse, ← List.map_append, List.take_append_drop]
        have hokR : ∀ v ∈ st.drop na, qm_okV L v := fun v hv => hst v (List.mem_of_mem_drop hv)
        have hM := IH y as L M _ hcall D cA ad b H.size hokL hokM hokA
        have hwin : ∀ w ∈ qm_ws (I y), w ∈ qm_tb := by
          intro w hw
          rcases List.mem_cons.mp hw with rfl | hw
          · exact qm_tbl w2 rfl
          · exact hw
        have hfree : ∀ q, va_A (qm_w cA ad L M) H.size q → A q := by
          rintro q (⟨j, x, hx⟩ | hq)
          · exact hD.2 j (q, x) hx
          · exact hA q (Nat.le_trans hS.1 hq)
        have hpre : ∀ U : State, U.heap = H → s.WarmedH U.vm → qm_Pc D cA ad b L M as H.size (as.map (qm_cv ad b)).toArray U := fun U hU hW =>
          ⟨rfl, by rw [hU], by rw [hU]; exact hP, va_K.moved hW.alike hK, hD.weaken (fun _ _ _ _ => trivial)⟩
        have hblind : FrameBlind (qm_Pc D cA ad b L M as H.size) := fun a U g mk q => by
          obtain ⟨q0, q1, qP, qK, qD⟩ := q
          exact ⟨q0, q1, qP, va_K.moved (u := U) (U := U.calling g mk a) (Vm.Alike.refl U.vm) qK, qD⟩
        have hroom : 2 * (F0 m pc lsA (st.map (qm_cv ad b))).monitorRoom + (((st.drop na).map (qm_cv ad b)).map fun v => v.category).sum ≤ 8 := by
          have := qm_cats ad b (st.drop na) 8 b3
          show 2 * 0 + _ ≤ 8
          omega
        have hcb : ∀ nn, (parseMethodDescriptor (I y).2.1.desc).map (fun d => d.parameters.length) = some nn → CallB R s args own idx (I y).2.1 (I y).2.2.1 (I y).2.2.2.1 (I y).2.2.2.2 (qm_ws (I y)) (qm_rm d (P y).1) (P y).1.2.2.2.1 (P y).1.2.2.2.2.1 nn := fun nn hnn =>
          callB_of nn hts (qm_goodIn hwin) rfl rfl rfl (hts _ (qm_tbl w3 rfl)) (hts _ (qm_tbl w1 rfl)) ⟨n1, n2, hnn⟩ ⟨hRf, by show 8 + _ + 64 * d ≤ _; omega⟩
        have hgo : ∀ rest, rest = (st.drop na).map (qm_cv ad b) → va_Run p l e R s m args below meth c H locs k n (P y).1.2.2.2.1 (P y).1.2.2.2.2.1 (F0 m pc lsA (st.map (qm_cv ad b))) rest (qm_Qc D cA ad b L M H.size (fun r L' M' => qm_G p l e R s m args below meth c Qw nL mi D cA b A L0 ad0 (pc + 3) ls (cond (Nat.beq (cond (Nat.beq (P y).1.2.2.1 0) 0 1) 0) (st.drop na) (r :: st.drop na)) L' M' (k + (P y).1.2.2.2.1) (n + (P y).1.2.2.2.2.1)) (P y).1.2.2.1 (as.map (qm_cv ad b)).toArray) (va_A (qm_w cA ad L M) H.size) → W p l e R s m args below meth c H locs k n Qw (F0 m pc lsA (st.map (qm_cv ad b))) := by
          rintro rest rfl hrun
          refine qm_callX hrun (fun st t v _ hq => hq.2) hS (fun q _ h => hfree q h) hfree (fun v st₀ t locs1 h0 hq hS1 => ?_)
          obtain ⟨⟨r, L', M', ad', e1, e2, e3, e4, e5, e6, e7, e8, e9⟩, -⟩ := hq
          have hoL : ∀ i, i < L0.length → ad' i = ad0 i := fun i hi => by rw [e4 i (Nat.lt_of_lt_of_le hi hel)]; exact hea i hi
          have hgoal := e2 ad' t.heap locs1 lsA ⟨e6, e7, e8, e9.weaken (fun _ q _ hq => hfree q.1 hq), hS1, b1, b2, hoL, Nat.le_trans hel e5⟩ (by
            intro v hv
            cases hz : Nat.beq (P y).1.2.2.1 0 with
            | true =>
              rw [hz] at hv
              exact qm_okV_le e5 (hokR v hv)
            | false =>
              rw [hz] at hv
              rcases List.mem_cons.mp hv with rfl | hv
              · exact e3
              · exact qm_okV_le e5 (hokR v hv)) (fun i v hv => qm_okV_le e5 (hls i v hv)) (qm_LH_ext hl e4 hls)
          have hvl : v.toList ++ (st.drop na).map (qm_cv ad b) = (cond (Nat.beq (cond (Nat.beq (P y).1.2.2.1 0) 0 1) 0) (st.drop na) (r :: st.drop na)).map (qm_cv ad' b) := by
            cases e1
            cases hz : Nat.beq (P y).1.2.2.1 0 with
            | true =>
              show (st.drop na).map (qm_cv ad b) = (st.drop na).map (qm_cv ad' b)
              exact (qm_cv_map b e4 hokR).symm
            | false =>
              show qm_cv ad' b r :: (st.drop na).map (qm_cv ad b) = qm_cv ad' b r :: (st.drop na).map (qm_cv ad' b)
              rw [qm_cv_map b e4 hokR]
          rw [hvl]
          exact hgoal
        rcases hi with ⟨rfl, rfl, hi1, -⟩ | ⟨rfl, rfl, hi1, -⟩ | ⟨rfl, rfl, hi1⟩
        · have z1 : Nat.beq rc 99 = false := qm_bf (by omega)
          have z2 : Nat.beq rc 98 = false := qm_bf (by omega)
          rw [z1, z2] at q6
          simp only [cond_false, Bool.and_eq_true, decide_eq_true_eq] at q6
          obtain ⟨⟨⟨w4, w5⟩, w6⟩, w7, w8⟩ := q6
          split at w8
          · rename_i r hr
            simp only [decide_eq_true_eq] at w8
            simp only [cond_true] at hv
            split at hv
            · rename_i o as'
              rw [z2] at hv
              obtain ⟨fs, ho⟩ := hv
              refine hgo _ rfl (va_runV (C := (I y).2.1.cls) (b := ad o) (As := as'.map (qm_cv ad b)) (n := na - 1) ⟨hx, hb, hml, hown, hts⟩ hM ⟨hcb _ w6, hts _ (qm_tbl w4 rfl), hts _ (qm_tbl w7 rfl)⟩ ⟨hblind, ?_, hpre⟩ rfl ?_ hsize ?_ hroom hd ⟨Nat.le_trans b1 hRc, Nat.le_trans b2 hRs⟩)
              · have := va_recv hK hP hr (qm_w_get ho)
                rw [w8] at this
                exact this
              · rw [List.length_map]
                simp only [List.length_cons] at hlen
                omega
              · show st.map (qm_cv ad b) = _
                rw [hstk]
                simp [qm_cv]
            · exact hv.elim
          · cases w8
        · subst hi1
          have z1 : Nat.beq 99 99 = true := rfl
          rw [z1] at q6
          simp only [cond_true, Bool.and_eq_true, decide_eq_true_eq] at q6
          obtain ⟨w4, w6⟩ := q6
          refine hgo _ rfl (va_runS (As := as.map (qm_cv ad b)) (n := na) ⟨hx, hb, hml, hown, hts⟩ hM ⟨hcb _ w6, hts _ (qm_tbl w4 rfl)⟩ ⟨hblind, hpre⟩ rfl ?_ hsize ?_ hroom hd ⟨Nat.le_trans b1 hRc, Nat.le_trans b2 hRs⟩)
          · rw [List.length_map]; exact hlen
          · exact hstk
        · have hi1 : rc = 98 := by
            rcases hi1 with h | h
            · exact h.1
            · rw [h] at h9; cases h9
          subst hi1
          have z1 : Nat.beq 98 99 = false := rfl
          have z2 : Nat.beq 98 98 = true := rfl
          rw [z1, z2] at q6
          simp only [cond_false, cond_true, Bool.and_eq_true, decide_eq_true_eq] at q6
          obtain ⟨⟨⟨w4, w5⟩, w6⟩, w7, w8⟩ := q6
          simp only [cond_true] at hv
          split at hv
          · rename_i o as'
            refine hgo _ rfl (va_runI (b := ad o) (As := as'.map (qm_cv ad b)) (n := na - 1) ⟨hx, hb, hml, hown, hts⟩ (by have := hM; exact this) ⟨by have := hcb _ w6; rw [w8] at this; exact this, w7, hts _ (qm_tbl w4 rfl)⟩ ⟨hblind, hpre⟩ rfl ?_ hsize ?_ hroom hd ⟨Nat.le_trans b1 hRc, Nat.le_trans b2 hRs⟩)
            · rw [List.length_map]
              simp only [List.length_cons] at hlen
              omega
            · show st.map (qm_cv ad b) = _
              rw [hstk]
              simp [qm_cv]
          · exact hv.elim
    · cases hf
end QS
end
section
section QT
variable {p : Program} {l : Launch} {e : Env} {R : Room} {s : State} {m : MethodId} {args : Array Value} {below : List Frame} {meth : Method} {c : Code} {Qw : State → Prop}
variable {I : Nat → qm_Y} {P : Nat → qm_MI × Nat} {own : String} {bytes : ByteArray} {nL : Nat} {isInit : Bool} {mi : qm_MI} {D : va_G} {cA : ClassId} {b : Nat} {A : Nat → Prop} {d : Nat} {L0 : qm_L} {ad0 : Nat → Nat} {Q : qm_K}
theorem qm_okI {L : qm_L} {st : List qm_V} {v : qm_V} (hv : qm_okV L v) (h : ∀ w ∈ st, qm_okV L w) : ∀ w ∈ v :: st, qm_okV L w := fun w hw => by
  rcases List.mem_cons.mp hw with rfl | hw
  · exact hv
  · exact h w hw
theorem qm_okT {L : qm_L} {st : List qm_V} {v : qm_V} (h : ∀ w ∈ v :: st, qm_okV L w) : ∀ w ∈ st, qm_okV L w := fun w hw => h w (List.mem_cons_of_mem _ hw)
theorem qm_okS {L : qm_L} {ls : List (Option qm_V)} {k : Nat} {v : qm_V} (hv : qm_okV L v) (h : ∀ (i : Nat) (w : qm_V), ls[i]? = some (some w) → qm_okV L w) : ∀ (i : Nat) (w : qm_V), (ls.set k (some v))[i]? = some (some w) → qm_okV L w := by
  intro i w hw
  by_cases hi : i = k
  · subst hi
    rw [List.getElem?_set] at hw
    simp only [if_true] at hw
    split at hw
    · cases hw; exact hv
    · cases hw
  · rw [List.getElem?_set_ne (Ne.symm hi)] at hw
    exact h i w hw
theorem qm_R1 {v : Int} {a b : Int} (h1 : a ≤ v) (h2 : v ≤ b) (ha : -2147483648 ≤ a := by decide) (hb : b ≤ 2147483647 := by decide) : qm_R v := ⟨Int.le_trans ha h1, Int.le_trans h2 hb⟩
theorem qm_sw_keys {a : Int} {X : Nat → Prop} {t0 : Nat} : ∀ (ts : List Nat) (j : Nat), qm_sw a X t0 (qm_keys j ts) → (∃ i : Nat, i < ts.length ∧ a = ((j + i : Nat) : Int) ∧ X (ts.getD i 0)) ∨ ((∀ i : Nat, i < ts.length → a ≠ ((j + i : Nat) : Int)) ∧ X t0)
  | [], _, h => Or.inr ⟨fun i hi => absurd hi (Nat.not_lt_zero _), h⟩
  | t :: r, j, h => by
    by_cases hq : a = Int.ofNat j
    · exact Or.inl ⟨0, by simp, hq, h.1 hq⟩
    · rcases qm_sw_keys r (j + 1) (h.2 hq) with ⟨i, h1, h2, h3⟩ | ⟨h1, h2⟩
      · exact Or.inl ⟨i + 1, by simp only [List.length_cons]; omega, by rw [h2]; congr 1; omega, h3⟩
      · refine Or.inr ⟨fun i hi => ?_, h2⟩
        cases i with
        | zero => exact hq
        | succ i =>
          have := h1 i (by simp only [List.length_cons] at hi; omega)
          rw [show j + (i + 1) = j + 1 + i by omega]
          exact this
theorem qm_sw_zip {a : Int} {X : Nat → Prop} {t0 : Nat} {pc : Nat} {d : Int} (h0 : qm_off pc d t0 = true) : ∀ (ps : List (Int × Int)) (ts : List Nat), ts.length = ps.length → (∀ i o, ps[i]? = some o → qm_off pc o.2 (ts.getD i 0) = true) → qm_sw a X t0 (qm_zip ps ts) → ∃ t, X t ∧ (pc : Int) + Op.lookupswitch.offset ps d a = (t : Int)
  | [], _, _, _, h => by
    refine ⟨t0, ?_, of_decide_eq_true h0⟩
    cases ‹List Nat› <;> exact h
  | q :: ps, [], hl, _, _ => by simp at hl
  | q :: ps, t :: ts, hl, ho, h => by
    obtain ⟨q1, q2⟩ := q
    rw [Op.lookupswitch.offset_cons]
    by_cases hq : a = q1
    · rw [if_pos hq.symm]
      exact ⟨t, h.1 hq, of_decide_eq_true (ho 0 (q1, q2) rfl)⟩
    · rw [if_neg (fun z => hq z.symm)]
      exact qm_sw_zip h0 ps ts (by simpa using hl) (fun i o hi => ho (i + 1) o hi) (h.2 hq)
theorem qm_arrW : Cond.arrayClass .int ∈ qm_tb := qm_tbl (i := 97) (by decide +kernel) rfl
theorem qm_sim (C : qm_Ctx p R s m args meth c own bytes nL isInit mi D cA b A d) (O : qm_Ok I P own bytes nL isInit mi) (IH : ∀ y a L M K, qm_Runs P d y a L M K → qm_Met l I P d y a L M K)
    (hret : qm_Ret p l e R s m args below meth c Qw bytes mi D cA A L0 ad0 Q) (pc : Nat) (ls : List (Option qm_V)) (st : List qm_V) (L : qm_L) (M : qm_M) (k n : Nat)
    (h : qm_one mi (qm_Runs P d) Q (qm_G p l e R s m args below meth c Qw nL mi D cA b A L0 ad0) pc ls st L M k n) : qm_G p l e R s m args below meth c Qw nL mi D cA b A L0 ad0 pc ls st L M k n := by
  unfold qm_one at h
  split at h
  case h_2 => exact h.elim
  rename_i x hx0
  obtain ⟨i, len, ts⟩ := x
  have hmem := qm_lk_mem hx0
  have hd := O.1 _ hmem
  have hk := O.2.1 _ hmem
  have O3 := O.2.2.1
  have O4 := O.2.2.2.1
  have O5 := O.2.2.2.2
  clear O hx0 hmem
  have CC := C
  obtain ⟨hx, hb, hml, hown, hts, hK, hA, hsc, hRc, hRs, hRf, hRl, hin⟩ := C
  simp only at h hd hk
  unfold qm_ins at h
  split at h
  case h_1 v =>
    simp only [qm_chk, Bool.and_eq_true, decide_eq_true_eq] at hk
    obtain ⟨hn, hv1, hv2⟩ := hk
    have hn := Nat.eq_of_beq_eq_true hn
    subst hn
    intro ad H locs lsA hw hst hls hl
    refine lv_iconst hx hb hd rfl ?_
    exact h ad H locs lsA hw (qm_okI (show qm_R v from qm_R1 hv1 hv2) hst) hls hl
  case h_2 v =>
    simp only [qm_chk, Bool.and_eq_true, decide_eq_true_eq] at hk
    obtain ⟨hn, hv0, hv1, hv2⟩ := hk
    have hn := Nat.eq_of_beq_eq_true hn
    subst hn
    intro ad H locs lsA hw hst hls hl
    refine lv_bipush hx hb hd hv0 ?_
    exact h ad H locs lsA hw (qm_okI (show qm_R v from qm_R1 hv1 hv2) hst) hls hl
  case h_3 v =>
    simp only [qm_chk, Bool.and_eq_true, decide_eq_true_eq] at hk
    obtain ⟨hn, hv0, hv1, hv2⟩ := hk
    have hn := Nat.eq_of_beq_eq_true hn
    subst hn
    intro ad H locs lsA hw hst hls hl
    refine lv_sipush hx hb hd hv0 ?_
    exact h ad H locs lsA hw (qm_okI (show qm_R v from qm_R1 hv1 hv2) hst) hls hl
  case h_4 j =>
    have hn := Nat.eq_of_beq_eq_true hk
    subst hn
    intro ad H locs lsA hw hst hls hl
    unfold qm_li at h
    split at h
    · rename_i v hv
      exact lv_iload hx hb hd (hl.2.2 _ _ hv) (h ad H locs lsA hw (qm_okI (hls _ _ hv) hst) hls hl)
    · exact h.elim
  case h_5 j =>
    have hn := Nat.eq_of_beq_eq_true hk
    subst hn
    intro ad H locs lsA hw hst hls hl
    unfold qm_li at h
    split at h
    · rename_i v hv
      exact lv_iload_n hx hb hd rfl (hl.2.2 _ _ hv) (h ad H locs lsA hw (qm_okI (hls _ _ hv) hst) hls hl)
    · exact h.elim
  case h_6 j =>
    have hn := Nat.eq_of_beq_eq_true hk
    subst hn
    intro ad H locs lsA hw hst hls hl
    unfold qm_lr at h
    split at h
    · rename_i v hv
      cases v with
      | none => exact lv_aload hx hb hd (hl.2.2 _ _ hv) (h ad H locs lsA hw (qm_okI (hls _ _ hv) hst) hls hl)
      | some o => exact lv_aload hx hb hd (hl.2.2 _ _ hv) (h ad H locs lsA hw (qm_okI (hls _ _ hv) hst) hls hl)
    · exact h.elim
  case h_7 j =>
    have hn := Nat.eq_of_beq_eq_true hk
    subst hn
    intro ad H locs lsA hw hst hls hl
    unfold qm_lr at h
    split at h
    · rename_i v hv
      cases v with
      | none => exact lv_aload_n hx hb hd rfl (hl.2.2 _ _ hv) (h ad H locs lsA hw (qm_okI (hls _ _ hv) hst) hls hl)
      | some o => exact lv_aload_n hx hb hd rfl (hl.2.2 _ _ hv) (h ad H locs lsA hw (qm_okI (hls _ _ hv) hst) hls hl)
    · exact h.elim
  case h_8 j =>
    simp only [qm_chk, Bool.and_eq_true] at hk
    obtain ⟨hn, hj⟩ := hk
    have hn := Nat.eq_of_beq_eq_true hn
    have hj := Nat.le_of_ble_eq_true hj
    subst hn
    intro ad H locs lsA hw hst hls hl
    unfold qm_ti at h
    split at h
    · rename_i a r
      exact lv_istore hx hb hd (qm_LH_has hl) hj rfl (fun ls' hl' => h ad H locs ls' hw (qm_okT hst) (qm_okS (hst _ List.mem_cons_self) hls) (qm_LH_set (v := .inl a) hl'))
    · exact h.elim
  case h_9 j =>
    simp only [qm_chk, Bool.and_eq_true] at hk
    obtain ⟨hn, hj⟩ := hk
    have hn := Nat.eq_of_beq_eq_true hn
    have hj := Nat.le_of_ble_eq_true hj
    subst hn
    intro ad H locs lsA hw hst hls hl
    unfold qm_ti at h
    split at h
    · rename_i a r
      exact lv_istore_n hx hb hd rfl (qm_LH_has hl) hj rfl (fun ls' hl' => h ad H locs ls' hw (qm_okT hst) (qm_okS (hst _ List.mem_cons_self) hls) (qm_LH_set (v := .inl a) hl'))
    · exact h.elim
  case h_10 j =>
    simp only [qm_chk, Bool.and_eq_true] at hk
    obtain ⟨hn, hj⟩ := hk
    have hn := Nat.eq_of_beq_eq_true hn
    have hj := Nat.le_of_ble_eq_true hj
    subst hn
    intro ad H locs lsA hw hst hls hl
    unfold qm_tr at h
    split at h
    · rename_i a r
      exact lv_astore hx hb hd (qm_LH_has hl) hj rfl (fun ls' hl' => h ad H locs ls' hw (qm_okT hst) (qm_okS (hst _ List.mem_cons_self) hls) (qm_LH_set (v := .inr (some a)) hl'))
    · exact h.elim
  case h_11 j =>
    simp only [qm_chk, Bool.and_eq_true] at hk
    obtain ⟨hn, hj⟩ := hk
    have hn := Nat.eq_of_beq_eq_true hn
    have hj := Nat.le_of_ble_eq_true hj
    subst hn
    intro ad H locs lsA hw hst hls hl
    unfold qm_tr at h
    split at h
    · rename_i a r
      exact lv_astore_n hx hb hd rfl (qm_LH_has hl) hj rfl (fun ls' hl' => h ad H locs ls' hw (qm_okT hst) (qm_okS (hst _ List.mem_cons_self) hls) (qm_LH_set (v := .inr (some a)) hl'))
    · exact h.elim
  case h_12 j dl =>
    simp only [qm_chk, Bool.and_eq_true] at hk
    obtain ⟨hn, hj⟩ := hk
    have hn := Nat.eq_of_beq_eq_true hn
    have hj := Nat.le_of_ble_eq_true hj
    subst hn
    intro ad H locs lsA hw hst hls hl
    unfold qm_li at h
    split at h
    · rename_i v hv
      have hmem : (j, qm_cv ad b (.inl v)) ∈ qm_pl ad b ls := qm_pl_mem.mpr ⟨_, hv, rfl⟩
      obtain ⟨kk, hkk⟩ := List.getElem?_of_mem hmem
      exact lv_iinc (v := Int32.ofInt (v + dl)) hx hb hd (qm_LH_has hl) (k := kk) hkk (by rw [Int32.ofInt_add]) hj rfl (fun ls' hl' => h.2 ad H locs ls' hw hst (qm_okS h.1 hls) (qm_LH_set (v := .inl (v + dl)) hl'))
    · exact h.elim
  case h_13 =>
    have hn := Nat.eq_of_beq_eq_true hk
    subst hn
    intro ad H locs lsA hw hst hls hl
    unfold qm_tii at h
    split at h
    · rename_i y x r
      have ry : qm_R y := hst _ List.mem_cons_self
      have rx : qm_R x := hst _ (List.mem_cons_of_mem _ List.mem_cons_self)
      refine lv_iadd hx hb hd ?_
      have := h.2 ad H locs lsA hw (qm_okI (v := .inl (x + y)) (h.1) (qm_okT (qm_okT hst))) hls hl
      rw [← Int32.ofInt_add]; exact this
    · exact h.elim
  case h_14 =>
    have hn := Nat.eq_of_beq_eq_true hk
    subst hn
    intro ad H locs lsA hw hst hls hl
    unfold qm_tii at h
    split at h
    · rename_i y x r
      have ry : qm_R y := hst _ List.mem_cons_self
      have rx : qm_R x := hst _ (List.mem_cons_of_mem _ List.mem_cons_self)
      refine lv_isub hx hb hd ?_
      have := h.2 ad H locs lsA hw (qm_okI (v := .inl (x - y)) (h.1) (qm_okT (qm_okT hst))) hls hl
      rw [← Int32.ofInt_sub]; exact this
    · exact h.elim
  case h_15 =>
    have hn := Nat.eq_of_beq_eq_true hk
    subst hn
    intro ad H locs lsA hw hst hls hl
    unfold qm_tii at h
    split at h
    · rename_i y x r
      have ry : qm_R y := hst _ List.mem_cons_self
      have rx : qm_R x := hst _ (List.mem_cons_of_mem _ List.mem_cons_self)
      refine lv_imul hx hb hd ?_
      have := h.2 ad H locs lsA hw (qm_okI (v := .inl (x * y)) (h.1) (qm_okT (qm_okT hst))) hls hl
      rw [← Int32.ofInt_mul]; exact this
    · exact h.elim
  case h_16 =>
    have hn := Nat.eq_of_beq_eq_true hk
    subst hn
    intro ad H locs lsA hw hst hls hl
    unfold qm_tii at h
    split at h
    · rename_i y x r
      have ry : qm_R y := hst _ List.mem_cons_self
      have rx : qm_R x := hst _ (List.mem_cons_of_mem _ List.mem_cons_self)
      refine lv_idiv hx hb hd (fun q => by have := (qm_eqR ry (show qm_R 0 from ⟨by decide, by decide⟩)).mp q; have := h.1; omega) ?_
      have := h.2 ad H locs lsA hw (qm_okI (v := .inl (x.tdiv y)) (qm_tdR' rx h.1) (qm_okT (qm_okT hst))) hls hl
      rw [qm_divR rx ry h.1]; exact this
    · exact h.elim
  case h_17 =>
    have hn := Nat.eq_of_beq_eq_true hk
    subst hn
    intro ad H locs lsA hw hst hls hl
    unfold qm_tii at h
    split at h
    · rename_i y x r
      have ry : qm_R y := hst _ List.mem_cons_self
      have rx : qm_R x := hst _ (List.mem_cons_of_mem _ List.mem_cons_self)
      refine lv_irem hx hb hd (fun q => by have := (qm_eqR ry (show qm_R 0 from ⟨by decide, by decide⟩)).mp q; have := h.1; omega) ?_
      have := h.2 ad H locs lsA hw (qm_okI (v := .inl (x.tmod y)) (qm_tmR ry h.1) (qm_okT (qm_okT hst))) hls hl
      rw [qm_remR rx ry h.1]; exact this
    · exact h.elim
  case h_18 =>
    have hn := Nat.eq_of_beq_eq_true hk
    subst hn
    intro ad H locs lsA hw hst hls hl
    unfold qm_ti at h
    split at h
    · rename_i x r
      refine lv_ineg hx hb hd ?_
      have := h.2 ad H locs lsA hw (qm_okI (v := .inl (-x)) h.1 (qm_okT hst)) hls hl
      simp only [List.map_cons, qm_cv, Int32.ofInt_neg] at this
      exact this
    · exact h.elim
  case h_19 =>
    have hn := Nat.eq_of_beq_eq_true hk
    subst hn
    intro ad H locs lsA hw hst hls hl
    unfold qm_tii at h
    split at h
    · rename_i y x r
      have ry : qm_R y := hst _ List.mem_cons_self
      have rx : qm_R x := hst _ (List.mem_cons_of_mem _ List.mem_cons_self)
      refine lv_iand hx hb hd ?_
      have := h ad H locs lsA hw (qm_okI (v := .inl (qm_and x y)) (qm_R32 _) (qm_okT (qm_okT hst))) hls hl
      simp only [List.map_cons, qm_cv, qm_and, Int32.ofInt_toInt] at this
      exact this
    · exact h.elim
  case h_20 =>
    have hn := Nat.eq_of_beq_eq_true hk
    subst hn
    intro ad H locs lsA hw hst hls hl
    unfold qm_tii at h
    split at h
    · rename_i y x r
      have ry : qm_R y := hst _ List.mem_cons_self
      have rx : qm_R x := hst _ (List.mem_cons_of_mem _ List.mem_cons_self)
      refine lv_ior hx hb hd ?_
      have := h ad H locs lsA hw (qm_okI (v := .inl (qm_or x y)) (qm_R32 _) (qm_okT (qm_okT hst))) hls hl
      simp only [List.map_cons, qm_cv, qm_or, Int32.ofInt_toInt] at this
      exact this
    · exact h.elim
  case h_21 =>
    have hn := Nat.eq_of_beq_eq_true hk
    subst hn
    intro ad H locs lsA hw hst hls hl
    unfold qm_tii at h
    split at h
    · rename_i y x r
      have ry : qm_R y := hst _ List.mem_cons_self
      have rx : qm_R x := hst _ (List.mem_cons_of_mem _ List.mem_cons_self)
      refine lv_ixor hx hb hd ?_
      have := h ad H locs lsA hw (qm_okI (v := .inl (qm_xor x y)) (qm_R32 _) (qm_okT (qm_okT hst))) hls hl
      simp only [List.map_cons, qm_cv, qm_xor, Int32.ofInt_toInt] at this
      exact this
    · exact h.elim
  case h_22 =>
    have hn := Nat.eq_of_beq_eq_true hk
    subst hn
    intro ad H locs lsA hw hst hls hl
    unfold qm_tii at h
    split at h
    · rename_i y x r
      have ry : qm_R y := hst _ List.mem_cons_self
      have rx : qm_R x := hst _ (List.mem_cons_of_mem _ List.mem_cons_self)
      refine lv_ishl hx hb hd ?_
      have := h ad H locs lsA hw (qm_okI (v := .inl (qm_shl x y)) (qm_R32 _) (qm_okT (qm_okT hst))) hls hl
      simp only [List.map_cons, qm_cv, qm_shl, Int32.ofInt_toInt] at this
      exact this
    · exact h.elim
  case h_23 =>
    have hn := Nat.eq_of_beq_eq_true hk
    subst hn
    intro ad H locs lsA hw hst hls hl
    unfold qm_tii at h
    split at h
    · rename_i y x r
      have ry : qm_R y := hst _ List.mem_cons_self
      have rx : qm_R x := hst _ (List.mem_cons_of_mem _ List.mem_cons_self)
      refine lv_ishr hx hb hd ?_
      have := h ad H locs lsA hw (qm_okI (v := .inl (qm_shr x y)) (qm_R32 _) (qm_okT (qm_okT hst))) hls hl
      simp only [List.map_cons, qm_cv, qm_shr, Int32.ofInt_toInt] at this
      exact this
    · exact h.elim
  case h_24 cd off =>
    simp only [qm_chk, Bool.and_eq_true] at hk
    obtain ⟨hn, ho⟩ := hk
    have hn := Nat.eq_of_beq_eq_true hn
    have ho : (pc : Int) + off = ((ts.getD 0 0 : Nat) : Int) := of_decide_eq_true ho
    subst hn
    intro ad H locs lsA hw hst hls hl
    unfold qm_tii at h
    split at h
    · rename_i y x r
      have ry : qm_R y := hst _ List.mem_cons_self
      have rx : qm_R x := hst _ (List.mem_cons_of_mem _ List.mem_cons_self)
      have k1 := fun q => h.1 q ad H locs lsA hw (qm_okT (qm_okT hst)) hls hl
      have k2 := fun q => h.2 q ad H locs lsA hw (qm_okT (qm_okT hst)) hls hl
      cases cd with
      | eq => exact lv_icmp_eq hx hb hd ho (fun q => k1 ((qm_eqR rx ry).mp q)) (fun q => k2 (fun z => q ((qm_eqR rx ry).mpr z)))
      | ne => exact lv_icmp_ne hx hb hd ho (fun q => k1 ((not_congr (qm_eqR rx ry)).mp q)) (fun q => k2 (fun z => z ((qm_eqR rx ry).mp q)))
      | lt => exact lv_icmp_lt hx hb hd ho (fun q => k1 ((qm_ltR rx ry).mp q)) (fun q => k2 (fun z => q ((qm_ltR rx ry).mpr z)))
      | ge => exact lv_icmp_ge hx hb hd ho (fun q => k1 ((qm_leR ry rx).mp q)) (fun q => k2 (fun z => q ((qm_leR ry rx).mpr z)))
      | gt => exact lv_icmp_gt hx hb hd ho (fun q => k1 ((qm_ltR ry rx).mp q)) (fun q => k2 (fun z => q ((qm_ltR ry rx).mpr z)))
      | le => exact lv_icmp_le hx hb hd ho (fun q => k1 ((qm_leR rx ry).mp q)) (fun q => k2 (fun z => q ((qm_leR rx ry).mpr z)))
    · exact h.elim
  case h_25 cd off =>
    simp only [qm_chk, Bool.and_eq_true] at hk
    obtain ⟨hn, ho⟩ := hk
    have hn := Nat.eq_of_beq_eq_true hn
    have ho : (pc : Int) + off = ((ts.getD 0 0 : Nat) : Int) := of_decide_eq_true ho
    subst hn
    intro ad H locs lsA hw hst hls hl
    unfold qm_ti at h
    split at h
    · rename_i x r
      have rx : qm_R x := hst _ List.mem_cons_self
      have ry : qm_R 0 := ⟨by decide, by decide⟩
      have k1 := fun q => h.1 q ad H locs lsA hw (qm_okT hst) hls hl
      have k2 := fun q => h.2 q ad H locs lsA hw (qm_okT hst) hls hl
      cases cd with
      | eq => exact lv_if_eq hx hb hd ho (fun q => k1 ((qm_eqR rx ry).mp q)) (fun q => k2 (fun z => q ((qm_eqR rx ry).mpr z)))
      | ne => exact lv_if_ne hx hb hd ho (fun q => k1 ((not_congr (qm_eqR rx ry)).mp q)) (fun q => k2 (fun z => z ((qm_eqR rx ry).mp q)))
      | lt => exact lv_if_lt hx hb hd ho (fun q => k1 ((qm_ltR rx ry).mp q)) (fun q => k2 (fun z => q ((qm_ltR rx ry).mpr z)))
      | ge => exact lv_if_ge hx hb hd ho (fun q => k1 ((qm_leR ry rx).mp q)) (fun q => k2 (fun z => q ((qm_leR ry rx).mpr z)))
      | gt => exact lv_if_gt hx hb hd ho (fun q => k1 ((qm_ltR ry rx).mp q)) (fun q => k2 (fun z => q ((qm_ltR ry rx).mpr z)))
      | le => exact lv_if_le hx hb hd ho (fun q => k1 ((qm_leR rx ry).mp q)) (fun q => k2 (fun z => q ((qm_leR rx ry).mpr z)))
    · exact h.elim
  case h_26 off =>
    simp only [qm_chk, Bool.and_eq_true] at hk
    obtain ⟨hn, ho⟩ := hk
    have ho : (pc : Int) + off = ((ts.getD 0 0 : Nat) : Int) := of_decide_eq_true ho
    have hn := Nat.eq_of_beq_eq_true hn
    subst hn
    intro ad H locs lsA hw hst hls hl
    exact lv_goto hx hb hd ho (h ad H locs lsA hw hst hls hl)
  case h_27 dd lo hi offs =>
    simp only [qm_chk, Bool.and_eq_true, decide_eq_true_eq] at hk
    obtain ⟨⟨⟨⟨h1, h2⟩, h3⟩, h4⟩, h5⟩ := hk
    have h4 := Nat.eq_of_beq_eq_true h4
    have h3 : (pc : Int) + dd = ((ts.getD 0 0 : Nat) : Int) := of_decide_eq_true h3
    have h2 : hi + 1 = (offs.size : Int) := h2
    subst h1
    intro ad H locs lsA hw hst hls hl
    unfold qm_ti at h
    split at h
    · rename_i x r
      have rx : qm_R x := hst _ List.mem_cons_self
      rcases qm_sw_keys _ _ h with ⟨i, q1, q2, q3⟩ | ⟨q1, q2⟩
      · have h6 := List.all_eq_true.mp h5 i (List.mem_range.mpr (by omega))
        split at h6
        · rename_i o heq
          refine lv_tableIn (off := o) (tgt := ts.tail.getD i 0) hx hb hd ?_ ?_ ?_ (of_decide_eq_true h6) (q3 ad H locs lsA hw (qm_okT hst) hls hl)
          · rw [qm_ofR rx]; omega
          · rw [qm_ofR rx]; omega
          · rw [qm_ofR rx, q2, ← heq]
            congr 1
            omega
        · cases h6
      · refine lv_tableOut hx hb hd ?_ h3 (q2 ad H locs lsA hw (qm_okT hst) hls hl)
        rw [qm_ofR rx]
        rcases Int.lt_or_le x 0 with hx0 | hx0
        · exact Or.inl hx0
        · refine Or.inr ?_
          rcases Int.lt_or_le hi x with hx1 | hx1
          · exact hx1
          · exfalso
            exact q1 x.toNat (by omega) (by omega)
    · exact h.elim
  case h_28 dd ps =>
    simp only [qm_chk, Bool.and_eq_true] at hk
    obtain ⟨⟨⟨h1, h2⟩, h3⟩, h4⟩ := hk
    have h3 := Nat.eq_of_beq_eq_true h3
    intro ad H locs lsA hw hst hls hl
    unfold qm_ti at h
    split at h
    · rename_i x r
      have rx : qm_R x := hst _ List.mem_cons_self
      obtain ⟨t, k1, k2⟩ := qm_sw_zip h2 ps.toList ts.tail h3 (fun i o hi => by
        have h6 := List.all_eq_true.mp h4 i (List.mem_range.mpr (List.getElem?_eq_some_iff.mp hi).1)
        rw [hi] at h6
        exact h6) h
      exact lv_lookup hx hb hd h1 rfl (by rw [qm_ofR rx]; exact k2) (k1 ad H locs lsA hw (qm_okT hst) hls hl)
    · exact h.elim
  case h_29 idx =>
    have hn := Nat.eq_of_beq_eq_true hk
    subst hn
    split at h
    · rename_i f hf
      obtain ⟨ci, kf, tag, ps⟩ := f
      have h3 := O3 _ (qm_lk_mem hf)
      unfold qm_okF at h3
      split at h3
      · rename_i r hr
        simp only [Bool.and_eq_true, decide_eq_true_eq] at h3
        obtain ⟨⟨⟨g1, g2⟩, g3⟩, g4⟩ := h3
        obtain ⟨k1, k2, k3⟩ := qm_kinds hr
        intro ad H locs lsA hw hst hls hl
        obtain ⟨hokL, hokM, hP, -⟩ := id hw
        unfold qm_tr at h
        split at h
        · rename_i o rr
          simp only at h
          cases ht : Nat.beq tag 2 with
          | true =>
            rw [ht] at h
            obtain ⟨f, ⟨fs, e1, e2⟩, h⟩ := h
            refine va_get (D := D) (v := .ref (ad f)) hx hb hts k1 hown hK hP o (qm_w_get e1) hr kf g1 (hts _ (qm_tbl g2 rfl)) (fun _ h9 => h9) ?_ hd ?_
            · simp [e2, qm_fv]
            · exact h ad H locs lsA hw (qm_okI (show f < L.length from hokL o _ e1 ci fs kf f rfl e2) (qm_okT hst)) hls hl
          | false =>
            rw [ht] at h
            obtain ⟨⟨fs, e1, e2⟩, h⟩ := h
            refine va_get (D := D) (v := .int (Int32.ofInt (M o kf))) hx hb hts k1 hown hK hP o (qm_w_get e1) hr kf g1 (hts _ (qm_tbl g2 rfl)) (fun _ h9 => h9) ?_ hd ?_
            · simp [e2, qm_fv]
            · exact h ad H locs lsA hw (qm_okI (v := .inl (M o kf)) (hokM o kf) (qm_okT hst)) hls hl
        · exact h.elim
      · cases h3
    · exact h.elim
  case h_30 idx =>
    simp only [qm_chk, Bool.and_eq_true] at hk
    obtain ⟨hn, hk⟩ := hk
    have hn := Nat.eq_of_beq_eq_true hn
    subst hn
    split at h
    · rename_i f hf
      rw [hf] at hk
      obtain ⟨ci, kf, tag, ps⟩ := f
      have h3 := O3 _ (qm_lk_mem hf)
      unfold qm_okF at h3
      split at h3
      · rename_i r hr
        simp only at hk hr h
        rw [hr] at hk
        simp only [Bool.and_eq_true, decide_eq_true_eq] at h3
        obtain ⟨⟨⟨g1, g2⟩, g3⟩, g4⟩ := h3
        obtain ⟨k1, ⟨ty0, k2⟩, k3⟩ := qm_kinds hr
        rw [k2 kf g1] at g4
        simp only at g4
        intro ad H locs lsA hw hst hls hl
        obtain ⟨hokL, hokM, hP, hD, hS, hb1, hb2, hb3, hb4⟩ := id hw
        have hput : ∀ (v : Value) (o : Nat) (fs : List (Option (Option Nat))) (rest : List Value), L[o]? = some (.inr (ci, fs)) → kf < fs.length → narrow (ty0 kf) v = v → fits (ty0 kf) v = true →
            (∀ (H1 : Heap) (locs1 : List Loc), va_P D vwCl ((qm_w cA ad L M).set o (ad o, .inr (ci, (fs.mapIdx (fun k f => qm_fv ad M o k f)).set kf v))) H1 → va_D A ((qm_w cA ad L M).set o (ad o, .inr (ci, (fs.mapIdx (fun k f => qm_fv ad M o k f)).set kf v))) → va_S A s.heap H1 locs1 → W p l e R s m args below meth c H1 locs1 k n Qw (F0 m (pc + 3) lsA rest)) →
            W p l e R s m args below meth c H locs k n Qw (F0 m pc lsA (v :: .ref (ad o) :: rest)) := by
          intro v o fs rest e1 e2 hnv hfv kk
          cases hfin : (r.2.1 kf).2.2.2 with
          | false => exact va_put (D := D) hx hb hts k1 ty0 k2 k3 hown hK hP hD hS o (qm_w_get e1) hr kf g1 (hts _ (qm_tbl g2 rfl)) (fun _ h9 => h9) hfin (k2 kf g1) hnv hfv (by rw [List.length_mapIdx]; exact e2) hd kk
          | true =>
            have hk' : (!(r.2.1 kf).2.2.2 || isInit) = true := hk
            rw [hfin] at hk' g3
            exact va_putF (D := D) hx hb hts k1 ty0 k2 k3 hown hK hP hD hS o (qm_w_get e1) hr kf g1 (hts _ (qm_tbl g2 rfl)) (fun _ h9 => h9) hfin (hin (by simpa using hk')) (by simpa using g3) (k2 kf g1) hnv hfv (by rw [List.length_mapIdx]; exact e2) hd kk
        split at h
        · rename_i v o rr
          have rv : qm_R v := hst _ List.mem_cons_self
          cases ht : Nat.beq tag 2 with
          | true => rw [ht] at h; exact h.elim
          | false =>
            rw [ht] at h g4
            cases ht1 : Nat.beq tag 1 with
            | true =>
              rw [ht1] at h g4
              have g4 : ty0 kf = .boolean := of_decide_eq_true g4
              obtain ⟨hv01, ⟨fs, e1, e2⟩, h⟩ := h
              refine hput (.int (Int32.ofInt v)) o fs _ e1 (List.getElem?_eq_some_iff.mp e2).1 ?_ ?_ (fun H1 locs1 a1 a2 a3 => ?_)
              · rw [g4]
                rcases hv01 with rfl | rfl <;> rfl
              · rw [g4]
                rcases hv01 with rfl | rfl <;> decide
              · rw [← qm_w_int e1 e2] at a1 a2
                exact h ad H1 locs1 lsA (qm_Wd_M hw (qm_okM_u hokM rv) a1 a2 a3) (qm_okT (qm_okT hst)) hls hl
            | false =>
              rw [ht1] at h g4
              simp only [cond_false, Bool.and_eq_true, decide_eq_true_eq] at g4
              have g4 : ty0 kf = .int := g4.2
              obtain ⟨⟨fs, e1, e2⟩, h⟩ := h
              refine hput (.int (Int32.ofInt v)) o fs _ e1 (List.getElem?_eq_some_iff.mp e2).1 ?_ ?_ (fun H1 locs1 a1 a2 a3 => ?_)
              · rw [g4]; rfl
              · rw [g4]; rfl
              · rw [← qm_w_int e1 e2] at a1 a2
                exact h ad H1 locs1 lsA (qm_Wd_M hw (qm_okM_u hokM rv) a1 a2 a3) (qm_okT (qm_okT hst)) hls hl
        · rename_i f o rr
          have rf : f < L.length := hst (.inr (some f)) List.mem_cons_self
          cases ht : Nat.beq tag 2 with
          | false => rw [ht] at h; exact h.elim
          | true =>
            rw [ht] at h g4
            obtain ⟨fs, e1, ⟨g, e2⟩, h⟩ := h
            have e3 := (List.getElem?_eq_some_iff.mp e2).1
            refine hput (.ref (ad f)) o fs _ e1 e3 ?_ ?_ (fun H1 locs1 a1 a2 a3 => ?_)
            · generalize ty0 kf = t at g4
              cases t <;> first | rfl | cases g4
            · generalize ty0 kf = t at g4
              cases t <;> first | rfl | cases g4
            · rw [← qm_w_ref e1 e3] at a1 a2
              have hl2 : (L.set o (.inr (ci, fs.set kf (some (some f))))).length = L.length := List.length_set
              exact h ad H1 locs1 lsA ⟨qm_okL_set hokL e1 rf, hokM, a1, a2, a3, hb1, hb2, hb3, by rw [hl2]; exact hb4⟩ (fun v hv => qm_okV_le (by rw [hl2]; exact Nat.le_refl _) (hst v (List.mem_cons_of_mem _ (List.mem_cons_of_mem _ hv)))) (fun i v hv => qm_okV_le (by rw [hl2]; exact Nat.le_refl _) (hls i v hv)) hl
        · exact h.elim
      · cases h3
    · exact h.elim
  case h_31 =>
    have hn := Nat.eq_of_beq_eq_true hk
    subst hn
    intro ad H locs lsA hw hst hls hl
    obtain ⟨hokL, hokM, hP, hD, hS, -⟩ := id hw
    split at h
    · rename_i i o r
      obtain ⟨mm, e1, h1, h2, h⟩ := h
      have ri : qm_R i := hst _ List.mem_cons_self
      refine va_iald (D := D) hx hb hK hP o 0 (qm_w_get e1) rfl (vp_in_iff.mpr ?_) hd ?_
      · rw [qm_ofR ri]; exact ⟨h1, h2⟩
      · rw [qm_clR ri]
        exact h ad H locs lsA hw (qm_okI (v := .inl (M o i.toNat)) (hokM o _) (qm_okT (qm_okT hst))) hls hl
    · rename_i i r
      split at h
      · rename_i sc hs
        obtain ⟨h1, h2, h⟩ := h
        obtain ⟨c1, c2, c3, c4, c5⟩ := hsc sc hs
        have ri : qm_R i := hst _ List.mem_cons_self
        refine va_sld hx hb c1 c2 c3 hS (vp_in_iff.mpr ?_) hd ?_
        · rw [qm_ofR ri]; exact ⟨h1, h2⟩
        · rw [qm_clR ri]
          exact h ad H locs lsA hw (qm_okI (v := .inl (sc.2 i.toNat)) (c5 _) (qm_okT (qm_okT hst))) hls hl
      · exact h.elim
    · exact h.elim
  case h_32 =>
    have hn := Nat.eq_of_beq_eq_true hk
    subst hn
    intro ad H locs lsA hw hst hls hl
    obtain ⟨hokL, hokM, hP, hD, hS, -⟩ := id hw
    split at h
    · rename_i v i o r
      obtain ⟨mm, e1, h1, h2, h⟩ := h
      have rv : qm_R v := hst _ List.mem_cons_self
      have ri : qm_R i := hst _ (List.mem_cons_of_mem _ List.mem_cons_self)
      refine va_iast (D := D) hx hb hK hP hD hS o 0 (qm_w_get e1) rfl (vp_in_iff.mpr ?_) hd (fun H1 locs1 a1 a2 a3 => ?_)
      · rw [qm_ofR ri]; exact ⟨h1, h2⟩
      · rw [qm_clR ri, ← qm_w_arr e1] at a1 a2
        exact h ad H1 locs1 lsA (qm_Wd_M hw (qm_okM_u hokM rv) a1 a2 a3) (qm_okT (qm_okT (qm_okT hst))) hls hl
    · exact h.elim
  case h_33 =>
    have hn := Nat.eq_of_beq_eq_true hk
    subst hn
    intro ad H locs lsA hw hst hls hl
    obtain ⟨hokL, hokM, hP, hD, hS, -⟩ := id hw
    split at h
    · rename_i o r
      obtain ⟨mm, e1, h1, h⟩ := h
      refine va_alen (D := D) hx hb hK hP o 0 (qm_w_get e1) rfl (v := Int32.ofInt (mm : Int)) Int32.ofInt_eq_ofNat.symm hd ?_
      exact h ad H locs lsA hw (qm_okI (v := .inl (mm : Int)) ⟨by omega, by omega⟩ (qm_okT hst)) hls hl
    · rename_i r
      split at h
      · rename_i sc hs
        obtain ⟨c1, c2, c3, c4, c5⟩ := hsc sc hs
        refine va_slen hx hb c1 c2 c3 hS hd ?_
        have := h ad H locs lsA hw (qm_okI (v := .inl (sc.1 : Int)) ⟨by omega, by omega⟩ (qm_okT hst)) hls hl
        simp only [List.map_cons, qm_cv, Int32.ofInt_eq_ofNat] at this
        exact this
      · exact h.elim
    · exact h.elim
  case h_34 idx =>
    have hn := Nat.eq_of_beq_eq_true hk
    subst hn
    split at h
    · rename_i f hf
      obtain ⟨ci, ps⟩ := f
      have h3 := O4 _ (qm_lk_mem hf)
      unfold qm_okN at h3
      split at h3
      · rename_i r p1 p2 p3 hr hps
        simp only [Bool.and_eq_true, decide_eq_true_eq] at h3
        obtain ⟨⟨⟨⟨w1, w2⟩, w3⟩, w4⟩, w5⟩ := h3
        have w4 := Nat.eq_of_beq_eq_true w4
        simp only at h w4 w5 hr
        obtain ⟨k1, ⟨ty0, k2⟩, k3⟩ := qm_kinds hr
        intro ad H locs lsA hw hst hls hl
        obtain ⟨hokL, hokM, hP, hD, hS, hb1, hb2, hb3, hb4⟩ := id hw
        cases hbb : (Nat.ble (k + 1) mi.2.2.2.1 && Nat.ble (n + (qm_df.getD ci []).length) mi.2.2.2.2.1) with
        | false => rw [hbb] at h; exact h.elim
        | true =>
          rw [hbb] at h
          simp only [cond_true] at h
          simp only [Bool.and_eq_true] at hbb
          have b1 := Nat.le_of_ble_eq_true hbb.1
          have b2 := Nat.le_of_ble_eq_true hbb.2
          generalize hdf : qm_df.getD ci [] = df at *
          have hty : ∀ j : Nat, j < df.length → (df[j]? = some none ∧ (ty0 j = .int ∨ ty0 j = .boolean)) ∨ (df[j]? = some (some none) ∧ qm_isRef (ty0 j) = true) := by
            intro j hj
            have := List.all_eq_true.mp w5 j (List.mem_range.mpr (by omega))
            rw [k2 j (by omega)] at this
            split at this
            · rename_i t h1 h2
              cases h1
              exact Or.inr ⟨h2, this⟩
            · rename_i t h1 h2
              cases h1
              exact Or.inl ⟨h2, of_decide_eq_true this⟩
            · cases this
          have he : ∀ nn, qm_okE nn (.inr (ci, df)) := by
            intro nn ci2 fs j r2 e1 e2
            cases e1
            have hj := (List.getElem?_eq_some_iff.mp e2).1
            rcases hty j hj with ⟨h1, -⟩ | ⟨h1, -⟩ <;> rw [h1] at e2 <;> cases e2
          refine va_new (D := D) (fs := df.mapIdx (fun k f => qm_fv ad (fun _ _ => 0) 0 k f)) hx hb hts k1 ty0 k2 hown (hts _ (qm_tbl w1 rfl)) (hts _ (qm_tbl w2 rfl)) (hts _ (qm_tbl w3 rfl)) hK hP hD hS hA hr ?_ (Nat.le_trans b1 hRc) (by rw [← w4]; exact Nat.le_trans b2 hRs) hd (fun q H1 a1 a2 a3 => ?_)
          · intro j hj
            rcases hty j (by omega) with ⟨h1, h2⟩ | ⟨h1, h2⟩
            · rcases h2 with h2 | h2 <;> (rw [h2]; simp [vp_V, h1, qm_fv, defaultValue])
            · generalize ty0 j = t at h2
              cases t <;> first | (simp [vp_V, h1, qm_fv, defaultValue]; done) | exact absurd h2 (by decide)
          · have hpush := qm_w_push (cA := cA) (ad := ad) (M := M) q (.inr (ci, df)) hokL he
            have a1' : va_P D vwCl (qm_w cA (fun k => if k = L.length then q else ad k) (L ++ [.inr (ci, df)]) (qm_z M L.length)) H1 := by rw [hpush]; exact a1
            have a2' : va_D A (qm_w cA (fun k => if k = L.length then q else ad k) (L ++ [.inr (ci, df)]) (qm_z M L.length)) := by rw [hpush]; exact a2
            have hex : ∀ i, i < L.length → (fun k => if k = L.length then q else ad k) i = ad i := fun i hi => if_neg (by omega)
            have hle : L.length ≤ (L ++ [(.inr (ci, df) : qm_E)]).length := by rw [List.length_append]; omega
            have := h (fun k => if k = L.length then q else ad k) H1 locs lsA ⟨qm_okL_push _ hokL he, qm_okM_z hokM, a1', a2', a3, b1, b2, fun i hi => by rw [hex i (by omega)]; exact hb3 i hi, Nat.le_trans hb4 hle⟩
              (qm_okI (show L.length < _ by rw [List.length_append]; exact Nat.lt_succ_self _) (fun v hv => qm_okV_le hle (hst v hv))) (fun i v hv => qm_okV_le hle (hls i v hv)) (qm_LH_ext hl hex hls)
            rw [← w4]
            rw [List.map_cons, qm_cv_map b hex hst] at this
            simp only [qm_cv, if_true] at this
            exact this
      · cases h3
    · exact h.elim
  case h_35 =>
    have hn := Nat.eq_of_beq_eq_true hk
    subst hn
    intro ad H locs lsA hw hst hls hl
    obtain ⟨hokL, hokM, hP, hD, hS, hb1, hb2, hb3, hb4⟩ := id hw
    split at h
    · rename_i mm rr
      obtain ⟨h1, h2, h3, h⟩ := h
      have h1 := Nat.le_of_ble_eq_true h1
      have b1 := Nat.le_of_ble_eq_true h2
      have b2 := Nat.le_of_ble_eq_true h3
      have rm : qm_R (Int.ofNat mm) := hst _ List.mem_cons_self
      have he : ∀ nn, qm_okE nn (.inl mm : qm_E) := by
        intro nn ci2 fs j r2 e1 e2
        cases e1
      refine va_newa (D := D) (atype := .int) (ty := .int) (N' := mm) (a0 := (mm, .inl (fun _ => Int32.ofInt 0))) hx hb (hts _ qm_arrW) rfl hK hP hD hS hA (fun cA => rfl) ?_ ?_ ?_ (Nat.le_trans b1 hRc) (Nat.le_trans b2 hRs) hd (fun q cA' H1 aK a1 a2 a3 => ?_)
      · intro hlt
        have h0 : (0 : Int32) = Int32.ofInt 0 := rfl
        rw [h0, qm_ltR rm ⟨by decide, by decide⟩] at hlt
        have : (0 : Int) ≤ Int.ofNat mm := Int.natCast_nonneg mm
        omega
      · rw [qm_clR rm]; rfl
      · show mm * 4 ≤ _
        omega
      · have e1 := (aK.2 0 (cA, .int) rfl).2
        have e2 := (aK.2 1 (cA', .int) rfl).2
        have e3 : cA' = cA := Option.some.inj ((show s.vm.findClass _ = some cA' from e2).symm.trans e1)
        subst e3
        have hpush := qm_w_push (cA := cA') (ad := ad) (M := M) q (.inl mm) hokL he
        have a1' : va_P D vwCl (qm_w cA' (fun k => if k = L.length then q else ad k) (L ++ [.inl mm]) (qm_z M L.length)) H1 := by rw [hpush]; exact a1
        have a2' : va_D A (qm_w cA' (fun k => if k = L.length then q else ad k) (L ++ [.inl mm]) (qm_z M L.length)) := by rw [hpush]; exact a2
        have hex : ∀ i, i < L.length → (fun k => if k = L.length then q else ad k) i = ad i := fun i hi => if_neg (by omega)
        have hle : L.length ≤ (L ++ [(.inl mm : qm_E)]).length := by rw [List.length_append]; omega
        have := h (fun k => if k = L.length then q else ad k) H1 locs lsA ⟨qm_okL_push _ hokL he, qm_okM_z hokM, a1', a2', a3, b1, b2, fun i hi => by rw [hex i (by omega)]; exact hb3 i hi, Nat.le_trans hb4 hle⟩
          (qm_okI (show L.length < _ by rw [List.length_append]; exact Nat.lt_succ_self _) (fun v hv => qm_okV_le hle (hst v (List.mem_cons_of_mem _ hv)))) (fun i v hv => qm_okV_le hle (hls i v hv)) (qm_LH_ext hl hex hls)
        rw [List.map_cons, qm_cv_map b hex (qm_okT hst)] at this
        simp only [qm_cv, if_true] at this
        exact this
    · exact h.elim
  case h_36 =>
    have hn := Nat.eq_of_beq_eq_true hk
    subst hn
    intro ad H locs lsA hw hst hls hl
    split at h
    · exact lv_dup hx hb hd (qm_cat _ _ _) (h ad H locs lsA hw (qm_okI (hst _ List.mem_cons_self) hst) hls hl)
    · exact h.elim
  case h_37 =>
    have hn := Nat.eq_of_beq_eq_true hk
    subst hn
    intro ad H locs lsA hw hst hls hl
    split at h
    · exact lv_pop hx hb hd (qm_cat _ _ _) (h ad H locs lsA hw (qm_okT hst) hls hl)
    · exact h.elim
  case h_38 =>
    have hn := Nat.eq_of_beq_eq_true hk
    subst hn
    intro ad H locs lsA hw hst hls hl
    split at h
    · exact lv_dup2_11 hx hb hd (qm_cat _ _ _) (qm_cat _ _ _) (h ad H locs lsA hw (qm_okI (hst _ List.mem_cons_self) (qm_okI (hst _ (List.mem_cons_of_mem _ List.mem_cons_self)) hst)) hls hl)
    · exact h.elim
  case h_39 idx =>
    simp only [qm_chk, Bool.and_eq_true] at hk
    obtain ⟨hn, hk⟩ := hk
    have hn := Nat.eq_of_beq_eq_true hn
    subst hn
    split at h
    · rename_i f hf
      rw [hf] at hk
      simp only [Bool.and_eq_true] at hk
      exact qm_simCall CC IH (O5 _ (qm_lk_mem hf)) (Or.inl ⟨rfl, rfl, Nat.le_of_ble_eq_true hk.1, Nat.le_of_ble_eq_true hk.2⟩) hd h
    · exact h.elim
  case h_40 idx =>
    simp only [qm_chk, Bool.and_eq_true] at hk
    obtain ⟨hn, hk⟩ := hk
    have hn := Nat.eq_of_beq_eq_true hn
    subst hn
    split at h
    · rename_i f hf
      rw [hf] at hk
      simp only [Bool.and_eq_true, Bool.not_eq_true'] at hk
      exact qm_simCall CC IH (O5 _ (qm_lk_mem hf)) (Or.inr (Or.inl ⟨rfl, rfl, Nat.eq_of_beq_eq_true hk.1, Nat.ne_of_beq_eq_false hk.2⟩)) hd h
    · exact h.elim
  case h_41 idx =>
    simp only [qm_chk, Bool.and_eq_true] at hk
    obtain ⟨hn, hk⟩ := hk
    have hn := Nat.eq_of_beq_eq_true hn
    subst hn
    split at h
    · rename_i f hf
      rw [hf] at hk
      simp only [Bool.or_eq_true, Bool.and_eq_true] at hk
      exact qm_simCall CC IH (O5 _ (qm_lk_mem hf)) (Or.inr (Or.inr ⟨rfl, rfl, hk.imp (fun z => ⟨Nat.eq_of_beq_eq_true z.1, Nat.le_of_ble_eq_true z.2⟩) Nat.eq_of_beq_eq_true⟩)) hd h
    · exact h.elim
  case h_42 =>
    have hn := Nat.eq_of_beq_eq_true hk
    subst hn
    intro ad H locs lsA hw hst hls hl
    split at h
    · rename_i v
      have rv : qm_R v := hst _ List.mem_cons_self
      cases h2 : Nat.beq mi.2.2.1 2 with
      | true =>
        rw [h2] at h
        exact hret pc _ (.inl v) _ ad H locs lsA L M k n hd (Or.inl ⟨rfl, v, rfl, rfl, Or.inl ⟨Nat.eq_of_beq_eq_true h2, h.1⟩⟩) h.2 rv hw
      | false =>
        rw [h2] at h
        cases h1 : Nat.beq mi.2.2.1 1 with
        | true =>
          rw [h1] at h
          exact hret pc _ (.inl v) _ ad H locs lsA L M k n hd (Or.inl ⟨rfl, v, rfl, rfl, Or.inr (Nat.eq_of_beq_eq_true h1)⟩) h rv hw
        | false => rw [h1] at h; exact h.elim
    · exact h.elim
  case h_43 =>
    have hn := Nat.eq_of_beq_eq_true hk
    subst hn
    intro ad H locs lsA hw hst hls hl
    split at h
    · cases h1 : Nat.beq mi.2.2.1 0 with
      | true =>
        rw [h1] at h
        exact hret pc _ (.inl 0) _ ad H locs lsA L M k n hd (Or.inr (Or.inl ⟨rfl, Nat.eq_of_beq_eq_true h1, rfl, rfl⟩)) h ⟨by decide, by decide⟩ hw
      | false => rw [h1] at h; exact h.elim
    · exact h.elim
  case h_44 =>
    have hn := Nat.eq_of_beq_eq_true hk
    subst hn
    intro ad H locs lsA hw hst hls hl
    split at h
    · rename_i o
      cases h1 : Nat.beq mi.2.2.1 3 with
      | true =>
        rw [h1] at h
        exact hret pc _ (.inr (some o)) _ ad H locs lsA L M k n hd (Or.inr (Or.inr ⟨rfl, Nat.eq_of_beq_eq_true h1, o, rfl, rfl⟩)) h (hst _ List.mem_cons_self) hw
      | false => rw [h1] at h; exact h.elim
    · exact h.elim
  case h_45 => exact h.elim
end QT
end
section
theorem qm_args_mem {ad : Nat → Nat} {b : Nat} : ∀ (a : List qm_V) (k i : Nat) (v : qm_V), a[i]? = some v → (k + i, qm_cv ad b v) ∈ lv_args k (a.map (qm_cv ad b))
  | [], _, _, _, h => by simp at h
  | x :: r, k, i, v, h => by
    have hc := qm_cat ad b x
    cases i with
    | zero =>
      simp only [List.getElem?_cons_zero, Option.some.injEq] at h
      subst h
      simp [lv_args]
    | succ i =>
      have := qm_args_mem (ad := ad) (b := b) r (k + 1) i v (by simpa using h)
      rw [show k + 1 + i = k + (i + 1) by omega] at this
      simp only [List.map_cons, lv_args]
      refine List.mem_cons_of_mem _ ?_
      simpa [hc] using this
theorem qm_sl_len {ad : Nat → Nat} {b : Nat} : ∀ (a : List qm_V), (lg_sl (a.map (qm_cv ad b))).length = a.length
  | [] => rfl
  | x :: r => by
    have hc := qm_cat ad b x
    have ih := qm_sl_len (ad := ad) (b := b) r
    unfold lg_sl at *
    rw [List.map_cons, List.flatMap_cons, List.length_append, ih, hc]
    simp
    omega
def qm_rkOk (rk : Nat) (ret : Option FieldType) : Bool := match ret with
  | none => Nat.beq rk 0
  | some .int => Nat.beq rk 1
  | some .boolean => Nat.beq rk 2
  | some (.object _) => Nat.beq rk 3
  | _ => false
/-- a method's record is right -/
def qm_MOk (I : Nat → qm_Y) (P : Nat → qm_MI × Nat) (y : Nat) : Prop :=
  qm_Ok I P (I y).1 (I y).2.2.1 (I y).2.2.2.1 (decide ((I y).2.1.name = "<init>")) (P y).1 ∧ (I y).2.1.cls = (I y).1 ∧ plainName (I y).1 = true ∧ (P y).2 = (I y).2.2.2.1 ∧ qm_rkOk (P y).1.2.2.1 (I y).2.2.2.2 = true ∧ (P y).1.2.2.2.2.2 = none
theorem qm_entry {ad : Nat → Nat} {b nL : Nat} (a : List qm_V) (h : a.length ≤ nL) : qm_LH ((lg_sl (a.map (qm_cv ad b)) ++ List.replicate (nL - (lg_sl (a.map (qm_cv ad b))).length) Slot.unset).toArray) nL ad b (a.map some ++ List.replicate (nL - a.length) none) := by
  have hl := lv_entry (a.map (qm_cv ad b)) (n := nL) (by rw [qm_sl_len]; exact h)
  refine ⟨hl.1, hl.2.1, fun i v hv => ?_⟩
  refine hl.2.2 (i, qm_cv ad b v) ?_
  by_cases hi : i < a.length
  · rw [List.getElem?_append_left (by rw [List.length_map]; exact hi), List.getElem?_map] at hv
    have := qm_args_mem (ad := ad) (b := b) a 0 i v (by
      cases ha : a[i]? with
      | none => rw [ha] at hv; cases hv
      | some w => rw [ha] at hv; simp only [Option.map_some, Option.some.injEq] at hv; rw [hv])
    rw [Nat.zero_add] at this
    exact this
  · rw [List.getElem?_append_right (by rw [List.length_map]; omega), List.getElem?_replicate] at hv
    split at hv <;> simp at hv
theorem qm_entryOk {L : qm_L} {a : List qm_V} {n : Nat} (h : ∀ v ∈ a, qm_okV L v) (i : Nat) (v : qm_V) (hv : (a.map some ++ List.replicate n none)[i]? = some (some v)) : qm_okV L v := by
  have hm := List.mem_of_getElem? hv
  rcases List.mem_append.mp hm with h1 | h1
  · obtain ⟨w, hw, he⟩ := List.mem_map.mp h1
    cases he
    exact h v hw
  · exact absurd (List.eq_of_mem_replicate h1) (by simp)
theorem qm_sound {l : Launch} {I : Nat → qm_Y} {P : Nat → qm_MI × Nat} (hI : ∀ y, qm_MOk I P y) : ∀ (d y : Nat) (a : List qm_V) (L : qm_L) (M : qm_M) (K : qm_K), qm_Runs P d y a L M K → qm_Met l I P d y a L M K
  | 0, _, _, _, _, _, h => h.elim
  | d + 1, y, a, L, M, K, h => by
    have IH := qm_sound (l := l) hI d
    obtain ⟨hlen, hT⟩ := h
    obtain ⟨hOk, hcls, hpl, hmx, hrk, hsn⟩ := hI y
    intro D cA ad b sz hokL hokM hokA
    refine Met.ofW (cc := (I y).2.2.1) (maxL := (I y).2.2.2.1) (ret := (I y).2.2.2.2) (by rw [hcls]; exact hpl) rfl ?_
    intro p e s m args below meth c s₁ B hml hv
    obtain ⟨rfl, hsz, hP, hK, hD0⟩ := hv
    have hx := B.exec
    have hb := B.bytes
    have hr := B.returns
    have hts : ∀ w ∈ qm_ws (I y), w.before (a.map (qm_cv ad b)).toArray s = true := atoms_spec (ws := qm_ws (I y)) B.pre
    have hown : s.vm.findClass (I y).2.1.cls = some m.cls := findClass_of_methodNamed B.named
    have hlocks := B.notSynchronized
    subst hsz
    have hD := hD0.self (sz := s.heap.size)
    have hA : ∀ q : Nat, s.heap.size ≤ q → va_A (qm_w cA ad L M) s.heap.size q := fun q h => Or.inr h
    rw [hcls] at hown
    have C : qm_Ctx p (headSpec (qm_ws (I y)) (qm_rm (d + 1) (P y).1)).room s m (a.map (qm_cv ad b)).toArray meth c (I y).1 (I y).2.2.1 (I y).2.2.2.1 (decide ((I y).2.1.name = "<init>")) (P y).1 D cA b (va_A (qm_w cA ad L M) s.heap.size) d :=
      ⟨hx, hb, hml, hown, fun w hw => hts w (List.mem_cons_of_mem _ hw), hK, hA, fun sc hs => (by rw [hsn] at hs; cases hs), Nat.le_refl _, Nat.le_refl _, Nat.le_refl _, (by show 64 * d + 64 ≤ 64 * (d + 1); omega), fun hi => ((name_of_methodNamed B.named B.method).1).trans (of_decide_eq_true hi)⟩
    have hret : qm_Ret p l e (headSpec (qm_ws (I y)) (qm_rm (d + 1) (P y).1)).room s m (a.map (qm_cv ad b)).toArray below meth c (MQ below (qm_Qc D cA ad b L M s.heap.size K (P y).1.2.2.1) (a.map (qm_cv ad b)).toArray s (P y).1.2.2.2.1 (P y).1.2.2.2.2.1 (va_A (qm_w cA ad L M) s.heap.size)) (I y).2.2.1 (P y).1 D cA (va_A (qm_w cA ad L M) s.heap.size) L ad K := by
      intro pc i r stk ad' H locs lsA L' M' k n hdg hrt hQ hokr hw
      obtain ⟨w1, w2, w3, w4, w5, w6, w7, w8, w9⟩ := hw
      refine W.widen (k := (P y).1.2.2.2.1) (n := (P y).1.2.2.2.2.1) w6 w7 ?_
      have hq : ∀ (v : Option Value), v = cond (Nat.beq (P y).1.2.2.1 0) none (some (qm_cv ad' b r)) → ∀ t : State, t.heap = H → s.WarmedH t.vm → qm_Qc D cA ad b L M s.heap.size K (P y).1.2.2.1 (a.map (qm_cv ad b)).toArray s (.returned v) t := by
        rintro v rfl t ht hW
        exact ⟨⟨r, L', M', ad', rfl, hQ, hokr, w8, w9, w1, w2, by rw [ht]; exact w3, w4⟩, w5.F ht⟩
      rcases hrt with ⟨rfl, v, rfl, rfl, hrt⟩ | ⟨rfl, h0, rfl, rfl⟩ | ⟨rfl, h3, o, rfl, rfl⟩
      · unfold qm_rkOk at hrk
        rcases hrt with ⟨h2, h01⟩ | h1
        · rw [h2] at hrk
          split at hrk <;> try (cases hrk; done)
          rename_i ty hty
          refine W.zret (ty := .boolean) hx hb (by rw [hr, hty]) (by rcases h01 with rfl | rfl <;> rfl) (hq _ (by rw [h2]; rfl)) w5.2.2 hdg
        · rw [h1] at hrk
          split at hrk <;> try (cases hrk; done)
          rename_i ty hty
          exact W.iret hx hb (by rw [hr, hty]) (hq _ (by rw [h1]; rfl)) w5.2.2 hdg
      · unfold qm_rkOk at hrk
        rw [h0] at hrk
        split at hrk <;> try (cases hrk; done)
        rename_i ty hty
        exact W.vret hx hb (by rw [hr, hty]) (hq _ (by rw [h0]; rfl)) w5.2.2 hdg
      · unfold qm_rkOk at hrk
        rw [h3] at hrk
        split at hrk <;> try (cases hrk; done)
        rename_i ty nm hty
        exact W.aret (rt := .object nm) hx hb (by rw [hr, hty]) (Or.inl ⟨_, rfl⟩) (Or.inr ⟨_, rfl⟩) (hq _ (by rw [h3]; rfl)) w5.2.2 hdg
    have hsim := hT _ (fun pc ls st L2 M2 k n h => qm_sim (Q := K) (L0 := L) (ad0 := ad) (Qw := MQ below (qm_Qc D cA ad b L M s.heap.size K (P y).1.2.2.1) (a.map (qm_cv ad b)).toArray s (P y).1.2.2.2.1 (P y).1.2.2.2.2.1 (va_A (qm_w cA ad L M) s.heap.size)) C hOk IH hret pc ls st L2 M2 k n h)
    rw [hmx] at hlen hsim
    rw [lg_entry_eq]
    exact hsim ad s.heap [] _ ⟨hokL, hokM, hP, hD, va_S.rf, Nat.zero_le _, Nat.zero_le _, fun _ _ => rfl, Nat.le_refl _⟩ (fun v hv => by cases hv) (qm_entryOk hokA) (qm_entry a hlen)
end

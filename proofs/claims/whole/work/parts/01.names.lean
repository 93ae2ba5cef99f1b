/-- a private method of a class that the tables say can be made, by its rows of tables_1 -/
def lw_okq (q : MethodName × Nat) : Prop := (q.1.cls ≠ "java/lang/invoke/MethodHandle" ∧ q.1.cls ≠ "java/lang/invoke/VarHandle") ∧ Cond.instantiable q.1.cls q.2 ∈ tables_1 ∧ Cond.privateMethod q.1 ∈ tables_1 ∧ Cond.instanceMethod q.1 ∈ tables_1
theorem lw_p0 : lw_okq (⟨"YoungerBench", "putBytes", "(I)V"⟩, 16) := ⟨⟨by decide +kernel, by decide +kernel⟩, List.mem_of_getElem? (i := 23) (by decide +kernel), List.mem_of_getElem? (i := 495) (by decide +kernel), List.mem_of_getElem? (i := 496) (by decide +kernel)⟩
theorem lw_p1 : lw_okq (⟨"YoungerBench", "openTape", "()V"⟩, 16) := ⟨⟨by decide +kernel, by decide +kernel⟩, List.mem_of_getElem? (i := 23) (by decide +kernel), List.mem_of_getElem? (i := 507) (by decide +kernel), List.mem_of_getElem? (i := 508) (by decide +kernel)⟩
theorem lw_p2 : lw_okq (⟨"YoungerBench$TownReader", "readsClause", "()Z"⟩, 5) := ⟨⟨by decide +kernel, by decide +kernel⟩, List.mem_of_getElem? (i := 399) (by decide +kernel), List.mem_of_getElem? (i := 533) (by decide +kernel), List.mem_of_getElem? (i := 534) (by decide +kernel)⟩
theorem lw_p3 : lw_okq (⟨"YoungerBench$TownReader", "isOneTooMany", "(I)Z"⟩, 5) := ⟨⟨by decide +kernel, by decide +kernel⟩, List.mem_of_getElem? (i := 399) (by decide +kernel), List.mem_of_getElem? (i := 598) (by decide +kernel), List.mem_of_getElem? (i := 599) (by decide +kernel)⟩
theorem lw_p4 : lw_okq (⟨"YoungerBench$TownReader", "readsTown", "()Z"⟩, 5) := ⟨⟨by decide +kernel, by decide +kernel⟩, List.mem_of_getElem? (i := 399) (by decide +kernel), List.mem_of_getElem? (i := 606) (by decide +kernel), List.mem_of_getElem? (i := 607) (by decide +kernel)⟩
theorem lw_p5 : lw_okq (⟨"YoungerBench$TownReader", "readsBench", "()Z"⟩, 5) := ⟨⟨by decide +kernel, by decide +kernel⟩, List.mem_of_getElem? (i := 399) (by decide +kernel), List.mem_of_getElem? (i := 614) (by decide +kernel), List.mem_of_getElem? (i := 615) (by decide +kernel)⟩
theorem lw_p6 : lw_okq (⟨"YoungerBench$TownReader", "readsPerson", "()Z"⟩, 5) := ⟨⟨by decide +kernel, by decide +kernel⟩, List.mem_of_getElem? (i := 399) (by decide +kernel), List.mem_of_getElem? (i := 618) (by decide +kernel), List.mem_of_getElem? (i := 619) (by decide +kernel)⟩
theorem lw_p7 : lw_okq (⟨"YoungerBench$TownReader", "readsTwins", "()Z"⟩, 5) := ⟨⟨by decide +kernel, by decide +kernel⟩, List.mem_of_getElem? (i := 399) (by decide +kernel), List.mem_of_getElem? (i := 622) (by decide +kernel), List.mem_of_getElem? (i := 623) (by decide +kernel)⟩
theorem lw_p8 : lw_okq (⟨"YoungerBench$TownReader", "readsCase", "()Z"⟩, 5) := ⟨⟨by decide +kernel, by decide +kernel⟩, List.mem_of_getElem? (i := 399) (by decide +kernel), List.mem_of_getElem? (i := 627) (by decide +kernel), List.mem_of_getElem? (i := 628) (by decide +kernel)⟩
theorem lw_p9 : lw_okq (⟨"YoungerBench$RuleReader", "readsSum", "()Z"⟩, 4) := ⟨⟨by decide +kernel, by decide +kernel⟩, List.mem_of_getElem? (i := 421) (by decide +kernel), List.mem_of_getElem? (i := 672) (by decide +kernel), List.mem_of_getElem? (i := 673) (by decide +kernel)⟩
theorem lw_p10 : lw_okq (⟨"YoungerBench$RuleReader", "readsValue", "()Z"⟩, 4) := ⟨⟨by decide +kernel, by decide +kernel⟩, List.mem_of_getElem? (i := 421) (by decide +kernel), List.mem_of_getElem? (i := 676) (by decide +kernel), List.mem_of_getElem? (i := 677) (by decide +kernel)⟩
theorem lw_p11 : lw_okq (⟨"YoungerBench$RuleReader", "put", "(I)V"⟩, 4) := ⟨⟨by decide +kernel, by decide +kernel⟩, List.mem_of_getElem? (i := 421) (by decide +kernel), List.mem_of_getElem? (i := 689) (by decide +kernel), List.mem_of_getElem? (i := 690) (by decide +kernel)⟩
theorem lw_p12 : lw_okq (⟨"YoungerBench$RuleReader", "timesOrBy", "()I"⟩, 4) := ⟨⟨by decide +kernel, by decide +kernel⟩, List.mem_of_getElem? (i := 421) (by decide +kernel), List.mem_of_getElem? (i := 693) (by decide +kernel), List.mem_of_getElem? (i := 694) (by decide +kernel)⟩
theorem lw_p13 : lw_okq (⟨"YoungerBench$RuleReader", "plusOrMinus", "()I"⟩, 4) := ⟨⟨by decide +kernel, by decide +kernel⟩, List.mem_of_getElem? (i := 421) (by decide +kernel), List.mem_of_getElem? (i := 701) (by decide +kernel), List.mem_of_getElem? (i := 702) (by decide +kernel)⟩
theorem lw_p14 : lw_okq (⟨"YoungerBench$RuleReader", "readsTest", "(I)Z"⟩, 4) := ⟨⟨by decide +kernel, by decide +kernel⟩, List.mem_of_getElem? (i := 421) (by decide +kernel), List.mem_of_getElem? (i := 708) (by decide +kernel), List.mem_of_getElem? (i := 709) (by decide +kernel)⟩
theorem lw_p15 : lw_okq (⟨"YoungerBench$RuleReader", "readsFact", "(I)Z"⟩, 4) := ⟨⟨by decide +kernel, by decide +kernel⟩, List.mem_of_getElem? (i := 421) (by decide +kernel), List.mem_of_getElem? (i := 712) (by decide +kernel), List.mem_of_getElem? (i := 713) (by decide +kernel)⟩
def lw_privs_1 : List (MethodName × Nat) := [(⟨"YoungerBench", "putBytes", "(I)V"⟩, 16), (⟨"YoungerBench", "openTape", "()V"⟩, 16), (⟨"YoungerBench$TownReader", "readsClause", "()Z"⟩, 5), (⟨"YoungerBench$TownReader", "isOneTooMany", "(I)Z"⟩, 5), (⟨"YoungerBench$TownReader", "readsTown", "()Z"⟩, 5), (⟨"YoungerBench$TownReader", "readsBench", "()Z"⟩, 5), (⟨"YoungerBench$TownReader", "readsPerson", "()Z"⟩, 5), (⟨"YoungerBench$TownReader", "readsTwins", "()Z"⟩, 5), (⟨"YoungerBench$TownReader", "readsCase", "()Z"⟩, 5), (⟨"YoungerBench$RuleReader", "readsSum", "()Z"⟩, 4), (⟨"YoungerBench$RuleReader", "readsValue", "()Z"⟩, 4), (⟨"YoungerBench$RuleReader", "put", "(I)V"⟩, 4), (⟨"YoungerBench$RuleReader", "timesOrBy", "()I"⟩, 4), (⟨"YoungerBench$RuleReader", "plusOrMinus", "()I"⟩, 4), (⟨"YoungerBench$RuleReader", "readsTest", "(I)Z"⟩, 4), (⟨"YoungerBench$RuleReader", "readsFact", "(I)Z"⟩, 4)]
theorem lw_r1 : ∀ q ∈ lw_privs_1, lw_okq q := List.forall_mem_cons.mpr ⟨lw_p0, List.forall_mem_cons.mpr ⟨lw_p1, List.forall_mem_cons.mpr ⟨lw_p2, List.forall_mem_cons.mpr ⟨lw_p3, List.forall_mem_cons.mpr ⟨lw_p4, List.forall_mem_cons.mpr ⟨lw_p5, List.forall_mem_cons.mpr ⟨lw_p6, List.forall_mem_cons.mpr ⟨lw_p7, List.forall_mem_cons.mpr ⟨lw_p8, List.forall_mem_cons.mpr ⟨lw_p9, List.forall_mem_cons.mpr ⟨lw_p10, List.forall_mem_cons.mpr ⟨lw_p11, List.forall_mem_cons.mpr ⟨lw_p12, List.forall_mem_cons.mpr ⟨lw_p13, List.forall_mem_cons.mpr ⟨lw_p14, List.forall_mem_cons.mpr ⟨lw_p15, fun _ h => absurd h List.not_mem_nil⟩⟩⟩⟩⟩⟩⟩⟩⟩⟩⟩⟩⟩⟩⟩⟩
theorem lw_p16 : lw_okq (⟨"YoungerBench$RuleReader", "readsComparison", "()I"⟩, 4) := ⟨⟨by decide +kernel, by decide +kernel⟩, List.mem_of_getElem? (i := 421) (by decide +kernel), List.mem_of_getElem? (i := 716) (by decide +kernel), List.mem_of_getElem? (i := 717) (by decide +kernel)⟩
theorem lw_p17 : lw_okq (⟨"YoungerBench$RuleReader", "comparison", "()I"⟩, 4) := ⟨⟨by decide +kernel, by decide +kernel⟩, List.mem_of_getElem? (i := 421) (by decide +kernel), List.mem_of_getElem? (i := 720) (by decide +kernel), List.mem_of_getElem? (i := 721) (by decide +kernel)⟩
theorem lw_p18 : lw_okq (⟨"YoungerBench", "hasBoth", "(II)Z"⟩, 16) := ⟨⟨by decide +kernel, by decide +kernel⟩, List.mem_of_getElem? (i := 23) (by decide +kernel), List.mem_of_getElem? (i := 797) (by decide +kernel), List.mem_of_getElem? (i := 798) (by decide +kernel)⟩
theorem lw_p19 : lw_okq (⟨"YoungerBench$Law", "nameJudge", "(III)V"⟩, 4) := ⟨⟨by decide +kernel, by decide +kernel⟩, List.mem_of_getElem? (i := 282) (by decide +kernel), List.mem_of_getElem? (i := 843) (by decide +kernel), List.mem_of_getElem? (i := 844) (by decide +kernel)⟩
theorem lw_p20 : lw_okq (⟨"YoungerBench$Course", "settleCase", "(ILYoungerBench$Town;)V"⟩, 10) := ⟨⟨by decide +kernel, by decide +kernel⟩, List.mem_of_getElem? (i := 163) (by decide +kernel), List.mem_of_getElem? (i := 888) (by decide +kernel), List.mem_of_getElem? (i := 889) (by decide +kernel)⟩
theorem lw_p21 : lw_okq (⟨"YoungerBench$Rows", "gatherOpen", "()V"⟩, 17) := ⟨⟨by decide +kernel, by decide +kernel⟩, List.mem_of_getElem? (i := 304) (by decide +kernel), List.mem_of_getElem? (i := 937) (by decide +kernel), List.mem_of_getElem? (i := 938) (by decide +kernel)⟩
theorem lw_p22 : lw_okq (⟨"YoungerBench$Rows", "placeAll", "()V"⟩, 17) := ⟨⟨by decide +kernel, by decide +kernel⟩, List.mem_of_getElem? (i := 304) (by decide +kernel), List.mem_of_getElem? (i := 941) (by decide +kernel), List.mem_of_getElem? (i := 942) (by decide +kernel)⟩
theorem lw_p23 : lw_okq (⟨"YoungerBench$Rows", "firstDay", "(II)I"⟩, 17) := ⟨⟨by decide +kernel, by decide +kernel⟩, List.mem_of_getElem? (i := 304) (by decide +kernel), List.mem_of_getElem? (i := 945) (by decide +kernel), List.mem_of_getElem? (i := 946) (by decide +kernel)⟩
theorem lw_p24 : lw_okq (⟨"YoungerBench$Rows", "isFree", "(IIII)Z"⟩, 17) := ⟨⟨by decide +kernel, by decide +kernel⟩, List.mem_of_getElem? (i := 304) (by decide +kernel), List.mem_of_getElem? (i := 951) (by decide +kernel), List.mem_of_getElem? (i := 952) (by decide +kernel)⟩
theorem lw_p25 : lw_okq (⟨"YoungerBench$Rows", "weigh", "(I)V"⟩, 17) := ⟨⟨by decide +kernel, by decide +kernel⟩, List.mem_of_getElem? (i := 304) (by decide +kernel), List.mem_of_getElem? (i := 955) (by decide +kernel), List.mem_of_getElem? (i := 956) (by decide +kernel)⟩
theorem lw_p26 : lw_okq (⟨"YoungerBench$Rows", "search", "()V"⟩, 17) := ⟨⟨by decide +kernel, by decide +kernel⟩, List.mem_of_getElem? (i := 304) (by decide +kernel), List.mem_of_getElem? (i := 961) (by decide +kernel), List.mem_of_getElem? (i := 962) (by decide +kernel)⟩
theorem lw_p27 : lw_okq (⟨"YoungerBench$Rows", "tryRows", "(II)V"⟩, 17) := ⟨⟨by decide +kernel, by decide +kernel⟩, List.mem_of_getElem? (i := 304) (by decide +kernel), List.mem_of_getElem? (i := 966) (by decide +kernel), List.mem_of_getElem? (i := 967) (by decide +kernel)⟩
theorem lw_p28 : lw_okq (⟨"YoungerBench$Rows", "tryJudges", "(III)V"⟩, 17) := ⟨⟨by decide +kernel, by decide +kernel⟩, List.mem_of_getElem? (i := 304) (by decide +kernel), List.mem_of_getElem? (i := 970) (by decide +kernel), List.mem_of_getElem? (i := 971) (by decide +kernel)⟩
theorem lw_p29 : lw_okq (⟨"YoungerBench$Rows", "keepIfBetter", "(II)V"⟩, 17) := ⟨⟨by decide +kernel, by decide +kernel⟩, List.mem_of_getElem? (i := 304) (by decide +kernel), List.mem_of_getElem? (i := 974) (by decide +kernel), List.mem_of_getElem? (i := 975) (by decide +kernel)⟩
theorem lw_p30 : lw_okq (⟨"YoungerBench", "measureChains", "(I)V"⟩, 16) := ⟨⟨by decide +kernel, by decide +kernel⟩, List.mem_of_getElem? (i := 23) (by decide +kernel), List.mem_of_getElem? (i := 985) (by decide +kernel), List.mem_of_getElem? (i := 986) (by decide +kernel)⟩
theorem lw_p31 : lw_okq (⟨"YoungerBench", "longestBelow", "(I)I"⟩, 16) := ⟨⟨by decide +kernel, by decide +kernel⟩, List.mem_of_getElem? (i := 23) (by decide +kernel), List.mem_of_getElem? (i := 989) (by decide +kernel), List.mem_of_getElem? (i := 990) (by decide +kernel)⟩
def lw_privs_2 : List (MethodName × Nat) := [(⟨"YoungerBench$RuleReader", "readsComparison", "()I"⟩, 4), (⟨"YoungerBench$RuleReader", "comparison", "()I"⟩, 4), (⟨"YoungerBench", "hasBoth", "(II)Z"⟩, 16), (⟨"YoungerBench$Law", "nameJudge", "(III)V"⟩, 4), (⟨"YoungerBench$Course", "settleCase", "(ILYoungerBench$Town;)V"⟩, 10), (⟨"YoungerBench$Rows", "gatherOpen", "()V"⟩, 17), (⟨"YoungerBench$Rows", "placeAll", "()V"⟩, 17), (⟨"YoungerBench$Rows", "firstDay", "(II)I"⟩, 17), (⟨"YoungerBench$Rows", "isFree", "(IIII)Z"⟩, 17), (⟨"YoungerBench$Rows", "weigh", "(I)V"⟩, 17), (⟨"YoungerBench$Rows", "search", "()V"⟩, 17), (⟨"YoungerBench$Rows", "tryRows", "(II)V"⟩, 17), (⟨"YoungerBench$Rows", "tryJudges", "(III)V"⟩, 17), (⟨"YoungerBench$Rows", "keepIfBetter", "(II)V"⟩, 17), (⟨"YoungerBench", "measureChains", "(I)V"⟩, 16), (⟨"YoungerBench", "longestBelow", "(I)I"⟩, 16)]
theorem lw_r2 : ∀ q ∈ lw_privs_2, lw_okq q := List.forall_mem_cons.mpr ⟨lw_p16, List.forall_mem_cons.mpr ⟨lw_p17, List.forall_mem_cons.mpr ⟨lw_p18, List.forall_mem_cons.mpr ⟨lw_p19, List.forall_mem_cons.mpr ⟨lw_p20, List.forall_mem_cons.mpr ⟨lw_p21, List.forall_mem_cons.mpr ⟨lw_p22, List.forall_mem_cons.mpr ⟨lw_p23, List.forall_mem_cons.mpr ⟨lw_p24, List.forall_mem_cons.mpr ⟨lw_p25, List.forall_mem_cons.mpr ⟨lw_p26, List.forall_mem_cons.mpr ⟨lw_p27, List.forall_mem_cons.mpr ⟨lw_p28, List.forall_mem_cons.mpr ⟨lw_p29, List.forall_mem_cons.mpr ⟨lw_p30, List.forall_mem_cons.mpr ⟨lw_p31, fun _ h => absurd h List.not_mem_nil⟩⟩⟩⟩⟩⟩⟩⟩⟩⟩⟩⟩⟩⟩⟩⟩
theorem lw_p32 : lw_okq (⟨"YoungerBench", "isBelow", "(II)Z"⟩, 16) := ⟨⟨by decide +kernel, by decide +kernel⟩, List.mem_of_getElem? (i := 23) (by decide +kernel), List.mem_of_getElem? (i := 993) (by decide +kernel), List.mem_of_getElem? (i := 994) (by decide +kernel)⟩
theorem lw_p33 : lw_okq (⟨"YoungerBench", "firstBelow", "(II)I"⟩, 16) := ⟨⟨by decide +kernel, by decide +kernel⟩, List.mem_of_getElem? (i := 23) (by decide +kernel), List.mem_of_getElem? (i := 999) (by decide +kernel), List.mem_of_getElem? (i := 1000) (by decide +kernel)⟩
theorem lw_p34 : lw_okq (⟨"YoungerBench", "mostRight", "(III)I"⟩, 16) := ⟨⟨by decide +kernel, by decide +kernel⟩, List.mem_of_getElem? (i := 23) (by decide +kernel), List.mem_of_getElem? (i := 1011) (by decide +kernel), List.mem_of_getElem? (i := 1012) (by decide +kernel)⟩
theorem lw_p35 : lw_okq (⟨"YoungerBench", "isTriable", "(II)Z"⟩, 16) := ⟨⟨by decide +kernel, by decide +kernel⟩, List.mem_of_getElem? (i := 23) (by decide +kernel), List.mem_of_getElem? (i := 1021) (by decide +kernel), List.mem_of_getElem? (i := 1022) (by decide +kernel)⟩
theorem lw_p36 : lw_okq (⟨"YoungerBench$Sieve", "weigh", "(III)V"⟩, 8) := ⟨⟨by decide +kernel, by decide +kernel⟩, List.mem_of_getElem? (i := 362) (by decide +kernel), List.mem_of_getElem? (i := 1056) (by decide +kernel), List.mem_of_getElem? (i := 1057) (by decide +kernel)⟩
theorem lw_p37 : lw_okq (⟨"YoungerBench", "hearByDraw", "()V"⟩, 16) := ⟨⟨by decide +kernel, by decide +kernel⟩, List.mem_of_getElem? (i := 23) (by decide +kernel), List.mem_of_getElem? (i := 1086) (by decide +kernel), List.mem_of_getElem? (i := 1087) (by decide +kernel)⟩
theorem lw_p38 : lw_okq (⟨"YoungerBench", "ruledRightly", "(I)I"⟩, 16) := ⟨⟨by decide +kernel, by decide +kernel⟩, List.mem_of_getElem? (i := 23) (by decide +kernel), List.mem_of_getElem? (i := 1098) (by decide +kernel), List.mem_of_getElem? (i := 1099) (by decide +kernel)⟩
theorem lw_p39 : lw_okq (⟨"YoungerBenchModel", "four", "(I)V"⟩, 48) := ⟨⟨by decide +kernel, by decide +kernel⟩, List.mem_of_getElem? (i := 1128) (by decide +kernel), List.mem_of_getElem? (i := 1284) (by decide +kernel), List.mem_of_getElem? (i := 1285) (by decide +kernel)⟩
theorem lw_p40 : lw_okq (⟨"YoungerBenchModel", "readsAll", "()Z"⟩, 48) := ⟨⟨by decide +kernel, by decide +kernel⟩, List.mem_of_getElem? (i := 1128) (by decide +kernel), List.mem_of_getElem? (i := 1296) (by decide +kernel), List.mem_of_getElem? (i := 1297) (by decide +kernel)⟩
theorem lw_p41 : lw_okq (⟨"YoungerBenchModel", "clauseHere", "()Z"⟩, 48) := ⟨⟨by decide +kernel, by decide +kernel⟩, List.mem_of_getElem? (i := 1128) (by decide +kernel), List.mem_of_getElem? (i := 1300) (by decide +kernel), List.mem_of_getElem? (i := 1301) (by decide +kernel)⟩
theorem lw_p42 : lw_okq (⟨"YoungerBenchModel", "see", "()I"⟩, 48) := ⟨⟨by decide +kernel, by decide +kernel⟩, List.mem_of_getElem? (i := 1128) (by decide +kernel), List.mem_of_getElem? (i := 1304) (by decide +kernel), List.mem_of_getElem? (i := 1305) (by decide +kernel)⟩
theorem lw_p43 : lw_okq (⟨"YoungerBenchModel", "isTownWord", "()Z"⟩, 48) := ⟨⟨by decide +kernel, by decide +kernel⟩, List.mem_of_getElem? (i := 1128) (by decide +kernel), List.mem_of_getElem? (i := 1308) (by decide +kernel), List.mem_of_getElem? (i := 1309) (by decide +kernel)⟩
theorem lw_p44 : lw_okq (⟨"YoungerBenchModel", "isWord", "(J)Z"⟩, 48) := ⟨⟨by decide +kernel, by decide +kernel⟩, List.mem_of_getElem? (i := 1128) (by decide +kernel), List.mem_of_getElem? (i := 1313) (by decide +kernel), List.mem_of_getElem? (i := 1314) (by decide +kernel)⟩
theorem lw_p45 : lw_okq (⟨"YoungerBenchModel", "isLetter", "(I)Z"⟩, 48) := ⟨⟨by decide +kernel, by decide +kernel⟩, List.mem_of_getElem? (i := 1128) (by decide +kernel), List.mem_of_getElem? (i := 1317) (by decide +kernel), List.mem_of_getElem? (i := 1318) (by decide +kernel)⟩
theorem lw_p46 : lw_okq (⟨"YoungerBenchModel", "fails", "(II)Z"⟩, 48) := ⟨⟨by decide +kernel, by decide +kernel⟩, List.mem_of_getElem? (i := 1128) (by decide +kernel), List.mem_of_getElem? (i := 1326) (by decide +kernel), List.mem_of_getElem? (i := 1327) (by decide +kernel)⟩
theorem lw_p47 : lw_okq (⟨"YoungerBenchModel", "townLineHere", "(I)Z"⟩, 48) := ⟨⟨by decide +kernel, by decide +kernel⟩, List.mem_of_getElem? (i := 1128) (by decide +kernel), List.mem_of_getElem? (i := 1330) (by decide +kernel), List.mem_of_getElem? (i := 1331) (by decide +kernel)⟩
def lw_privs_3 : List (MethodName × Nat) := [(⟨"YoungerBench", "isBelow", "(II)Z"⟩, 16), (⟨"YoungerBench", "firstBelow", "(II)I"⟩, 16), (⟨"YoungerBench", "mostRight", "(III)I"⟩, 16), (⟨"YoungerBench", "isTriable", "(II)Z"⟩, 16), (⟨"YoungerBench$Sieve", "weigh", "(III)V"⟩, 8), (⟨"YoungerBench", "hearByDraw", "()V"⟩, 16), (⟨"YoungerBench", "ruledRightly", "(I)I"⟩, 16), (⟨"YoungerBenchModel", "four", "(I)V"⟩, 48), (⟨"YoungerBenchModel", "readsAll", "()Z"⟩, 48), (⟨"YoungerBenchModel", "clauseHere", "()Z"⟩, 48), (⟨"YoungerBenchModel", "see", "()I"⟩, 48), (⟨"YoungerBenchModel", "isTownWord", "()Z"⟩, 48), (⟨"YoungerBenchModel", "isWord", "(J)Z"⟩, 48), (⟨"YoungerBenchModel", "isLetter", "(I)Z"⟩, 48), (⟨"YoungerBenchModel", "fails", "(II)Z"⟩, 48), (⟨"YoungerBenchModel", "townLineHere", "(I)Z"⟩, 48)]
theorem lw_r3 : ∀ q ∈ lw_privs_3, lw_okq q := List.forall_mem_cons.mpr ⟨lw_p32, List.forall_mem_cons.mpr ⟨lw_p33, List.forall_mem_cons.mpr ⟨lw_p34, List.forall_mem_cons.mpr ⟨lw_p35, List.forall_mem_cons.mpr ⟨lw_p36, List.forall_mem_cons.mpr ⟨lw_p37, List.forall_mem_cons.mpr ⟨lw_p38, List.forall_mem_cons.mpr ⟨lw_p39, List.forall_mem_cons.mpr ⟨lw_p40, List.forall_mem_cons.mpr ⟨lw_p41, List.forall_mem_cons.mpr ⟨lw_p42, List.forall_mem_cons.mpr ⟨lw_p43, List.forall_mem_cons.mpr ⟨lw_p44, List.forall_mem_cons.mpr ⟨lw_p45, List.forall_mem_cons.mpr ⟨lw_p46, List.forall_mem_cons.mpr ⟨lw_p47, fun _ h => absurd h List.not_mem_nil⟩⟩⟩⟩⟩⟩⟩⟩⟩⟩⟩⟩⟩⟩⟩⟩
theorem lw_p48 : lw_okq (⟨"YoungerBenchModel", "isTownHere", "(I)Z"⟩, 48) := ⟨⟨by decide +kernel, by decide +kernel⟩, List.mem_of_getElem? (i := 1128) (by decide +kernel), List.mem_of_getElem? (i := 1334) (by decide +kernel), List.mem_of_getElem? (i := 1335) (by decide +kernel)⟩
theorem lw_p49 : lw_okq (⟨"YoungerBenchModel", "passWord", "()V"⟩, 48) := ⟨⟨by decide +kernel, by decide +kernel⟩, List.mem_of_getElem? (i := 1128) (by decide +kernel), List.mem_of_getElem? (i := 1338) (by decide +kernel), List.mem_of_getElem? (i := 1339) (by decide +kernel)⟩
theorem lw_p50 : lw_okq (⟨"YoungerBenchModel", "numberHere", "(II)Z"⟩, 48) := ⟨⟨by decide +kernel, by decide +kernel⟩, List.mem_of_getElem? (i := 1128) (by decide +kernel), List.mem_of_getElem? (i := 1342) (by decide +kernel), List.mem_of_getElem? (i := 1343) (by decide +kernel)⟩
theorem lw_p51 : lw_okq (⟨"YoungerBenchModel", "isDigit", "(I)Z"⟩, 48) := ⟨⟨by decide +kernel, by decide +kernel⟩, List.mem_of_getElem? (i := 1128) (by decide +kernel), List.mem_of_getElem? (i := 1346) (by decide +kernel), List.mem_of_getElem? (i := 1347) (by decide +kernel)⟩
theorem lw_p52 : lw_okq (⟨"YoungerBenchModel", "cellHere", "(III)Z"⟩, 48) := ⟨⟨by decide +kernel, by decide +kernel⟩, List.mem_of_getElem? (i := 1128) (by decide +kernel), List.mem_of_getElem? (i := 1353) (by decide +kernel), List.mem_of_getElem? (i := 1354) (by decide +kernel)⟩
theorem lw_p53 : lw_okq (⟨"YoungerBenchModel", "isBenchHere", "(I)Z"⟩, 48) := ⟨⟨by decide +kernel, by decide +kernel⟩, List.mem_of_getElem? (i := 1128) (by decide +kernel), List.mem_of_getElem? (i := 1357) (by decide +kernel), List.mem_of_getElem? (i := 1358) (by decide +kernel)⟩
theorem lw_p54 : lw_okq (⟨"YoungerBenchModel", "isPersonHere", "(I)Z"⟩, 48) := ⟨⟨by decide +kernel, by decide +kernel⟩, List.mem_of_getElem? (i := 1128) (by decide +kernel), List.mem_of_getElem? (i := 1361) (by decide +kernel), List.mem_of_getElem? (i := 1362) (by decide +kernel)⟩
theorem lw_p55 : lw_okq (⟨"YoungerBenchModel", "areTwinsHere", "(I)Z"⟩, 48) := ⟨⟨by decide +kernel, by decide +kernel⟩, List.mem_of_getElem? (i := 1128) (by decide +kernel), List.mem_of_getElem? (i := 1365) (by decide +kernel), List.mem_of_getElem? (i := 1366) (by decide +kernel)⟩
theorem lw_p56 : lw_okq (⟨"YoungerBenchModel", "isCaseHere", "(I)Z"⟩, 48) := ⟨⟨by decide +kernel, by decide +kernel⟩, List.mem_of_getElem? (i := 1128) (by decide +kernel), List.mem_of_getElem? (i := 1369) (by decide +kernel), List.mem_of_getElem? (i := 1370) (by decide +kernel)⟩
theorem lw_p57 : lw_okq (⟨"YoungerBenchModel", "isRightHere", "()Z"⟩, 48) := ⟨⟨by decide +kernel, by decide +kernel⟩, List.mem_of_getElem? (i := 1128) (by decide +kernel), List.mem_of_getElem? (i := 1373) (by decide +kernel), List.mem_of_getElem? (i := 1374) (by decide +kernel)⟩
theorem lw_p58 : lw_okq (⟨"YoungerBenchModel", "sum", "()Z"⟩, 48) := ⟨⟨by decide +kernel, by decide +kernel⟩, List.mem_of_getElem? (i := 1128) (by decide +kernel), List.mem_of_getElem? (i := 1377) (by decide +kernel), List.mem_of_getElem? (i := 1378) (by decide +kernel)⟩
theorem lw_p59 : lw_okq (⟨"YoungerBenchModel", "term", "()Z"⟩, 48) := ⟨⟨by decide +kernel, by decide +kernel⟩, List.mem_of_getElem? (i := 1128) (by decide +kernel), List.mem_of_getElem? (i := 1381) (by decide +kernel), List.mem_of_getElem? (i := 1382) (by decide +kernel)⟩
theorem lw_p60 : lw_okq (⟨"YoungerBenchModel", "value", "()Z"⟩, 48) := ⟨⟨by decide +kernel, by decide +kernel⟩, List.mem_of_getElem? (i := 1128) (by decide +kernel), List.mem_of_getElem? (i := 1385) (by decide +kernel), List.mem_of_getElem? (i := 1386) (by decide +kernel)⟩
theorem lw_p61 : lw_okq (⟨"YoungerBenchModel", "makes", "(I)Z"⟩, 48) := ⟨⟨by decide +kernel, by decide +kernel⟩, List.mem_of_getElem? (i := 1128) (by decide +kernel), List.mem_of_getElem? (i := 1390) (by decide +kernel), List.mem_of_getElem? (i := 1391) (by decide +kernel)⟩
theorem lw_p62 : lw_okq (⟨"YoungerBenchModel", "puts", "(II)V"⟩, 48) := ⟨⟨by decide +kernel, by decide +kernel⟩, List.mem_of_getElem? (i := 1128) (by decide +kernel), List.mem_of_getElem? (i := 1394) (by decide +kernel), List.mem_of_getElem? (i := 1395) (by decide +kernel)⟩
theorem lw_p63 : lw_okq (⟨"YoungerBenchModel", "wordHere", "()I"⟩, 48) := ⟨⟨by decide +kernel, by decide +kernel⟩, List.mem_of_getElem? (i := 1128) (by decide +kernel), List.mem_of_getElem? (i := 1398) (by decide +kernel), List.mem_of_getElem? (i := 1399) (by decide +kernel)⟩
def lw_privs_4 : List (MethodName × Nat) := [(⟨"YoungerBenchModel", "isTownHere", "(I)Z"⟩, 48), (⟨"YoungerBenchModel", "passWord", "()V"⟩, 48), (⟨"YoungerBenchModel", "numberHere", "(II)Z"⟩, 48), (⟨"YoungerBenchModel", "isDigit", "(I)Z"⟩, 48), (⟨"YoungerBenchModel", "cellHere", "(III)Z"⟩, 48), (⟨"YoungerBenchModel", "isBenchHere", "(I)Z"⟩, 48), (⟨"YoungerBenchModel", "isPersonHere", "(I)Z"⟩, 48), (⟨"YoungerBenchModel", "areTwinsHere", "(I)Z"⟩, 48), (⟨"YoungerBenchModel", "isCaseHere", "(I)Z"⟩, 48), (⟨"YoungerBenchModel", "isRightHere", "()Z"⟩, 48), (⟨"YoungerBenchModel", "sum", "()Z"⟩, 48), (⟨"YoungerBenchModel", "term", "()Z"⟩, 48), (⟨"YoungerBenchModel", "value", "()Z"⟩, 48), (⟨"YoungerBenchModel", "makes", "(I)Z"⟩, 48), (⟨"YoungerBenchModel", "puts", "(II)V"⟩, 48), (⟨"YoungerBenchModel", "wordHere", "()I"⟩, 48)]
theorem lw_r4 : ∀ q ∈ lw_privs_4, lw_okq q := List.forall_mem_cons.mpr ⟨lw_p48, List.forall_mem_cons.mpr ⟨lw_p49, List.forall_mem_cons.mpr ⟨lw_p50, List.forall_mem_cons.mpr ⟨lw_p51, List.forall_mem_cons.mpr ⟨lw_p52, List.forall_mem_cons.mpr ⟨lw_p53, List.forall_mem_cons.mpr ⟨lw_p54, List.forall_mem_cons.mpr ⟨lw_p55, List.forall_mem_cons.mpr ⟨lw_p56, List.forall_mem_cons.mpr ⟨lw_p57, List.forall_mem_cons.mpr ⟨lw_p58, List.forall_mem_cons.mpr ⟨lw_p59, List.forall_mem_cons.mpr ⟨lw_p60, List.forall_mem_cons.mpr ⟨lw_p61, List.forall_mem_cons.mpr ⟨lw_p62, List.forall_mem_cons.mpr ⟨lw_p63, fun _ h => absurd h List.not_mem_nil⟩⟩⟩⟩⟩⟩⟩⟩⟩⟩⟩⟩⟩⟩⟩⟩
theorem lw_p64 : lw_okq (⟨"YoungerBenchModel", "takesWord", "(J)Z"⟩, 48) := ⟨⟨by decide +kernel, by decide +kernel⟩, List.mem_of_getElem? (i := 1128) (by decide +kernel), List.mem_of_getElem? (i := 1415) (by decide +kernel), List.mem_of_getElem? (i := 1416) (by decide +kernel)⟩
theorem lw_p65 : lw_okq (⟨"YoungerBenchModel", "tested", "()Z"⟩, 48) := ⟨⟨by decide +kernel, by decide +kernel⟩, List.mem_of_getElem? (i := 1128) (by decide +kernel), List.mem_of_getElem? (i := 1419) (by decide +kernel), List.mem_of_getElem? (i := 1420) (by decide +kernel)⟩
theorem lw_p66 : lw_okq (⟨"YoungerBenchModel", "fact", "()Z"⟩, 48) := ⟨⟨by decide +kernel, by decide +kernel⟩, List.mem_of_getElem? (i := 1128) (by decide +kernel), List.mem_of_getElem? (i := 1423) (by decide +kernel), List.mem_of_getElem? (i := 1424) (by decide +kernel)⟩
theorem lw_p67 : lw_okq (⟨"YoungerBenchModel", "opens", "(I)Z"⟩, 48) := ⟨⟨by decide +kernel, by decide +kernel⟩, List.mem_of_getElem? (i := 1128) (by decide +kernel), List.mem_of_getElem? (i := 1428) (by decide +kernel), List.mem_of_getElem? (i := 1429) (by decide +kernel)⟩
theorem lw_p68 : lw_okq (⟨"YoungerBenchModel", "compare", "()Z"⟩, 48) := ⟨⟨by decide +kernel, by decide +kernel⟩, List.mem_of_getElem? (i := 1128) (by decide +kernel), List.mem_of_getElem? (i := 1432) (by decide +kernel), List.mem_of_getElem? (i := 1433) (by decide +kernel)⟩
theorem lw_p69 : lw_okq (⟨"YoungerBenchModel", "closes", "()V"⟩, 48) := ⟨⟨by decide +kernel, by decide +kernel⟩, List.mem_of_getElem? (i := 1128) (by decide +kernel), List.mem_of_getElem? (i := 1436) (by decide +kernel), List.mem_of_getElem? (i := 1437) (by decide +kernel)⟩
theorem lw_p70 : lw_okq (⟨"YoungerBenchModel", "settles", "(I)V"⟩, 48) := ⟨⟨by decide +kernel, by decide +kernel⟩, List.mem_of_getElem? (i := 1128) (by decide +kernel), List.mem_of_getElem? (i := 1440) (by decide +kernel), List.mem_of_getElem? (i := 1441) (by decide +kernel)⟩
theorem lw_p71 : lw_okq (⟨"YoungerBenchModel", "isInside", "()Z"⟩, 48) := ⟨⟨by decide +kernel, by decide +kernel⟩, List.mem_of_getElem? (i := 1128) (by decide +kernel), List.mem_of_getElem? (i := 1447) (by decide +kernel), List.mem_of_getElem? (i := 1448) (by decide +kernel)⟩
theorem lw_p72 : lw_okq (⟨"YoungerBenchModel", "isRule", "(I)Z"⟩, 48) := ⟨⟨by decide +kernel, by decide +kernel⟩, List.mem_of_getElem? (i := 1128) (by decide +kernel), List.mem_of_getElem? (i := 1461) (by decide +kernel), List.mem_of_getElem? (i := 1462) (by decide +kernel)⟩
theorem lw_p73 : lw_okq (⟨"YoungerBenchModel", "isPerson", "(I)Z"⟩, 48) := ⟨⟨by decide +kernel, by decide +kernel⟩, List.mem_of_getElem? (i := 1128) (by decide +kernel), List.mem_of_getElem? (i := 1469) (by decide +kernel), List.mem_of_getElem? (i := 1470) (by decide +kernel)⟩
theorem lw_p74 : lw_okq (⟨"YoungerBenchModel", "ageOn", "(II)I"⟩, 48) := ⟨⟨by decide +kernel, by decide +kernel⟩, List.mem_of_getElem? (i := 1128) (by decide +kernel), List.mem_of_getElem? (i := 1473) (by decide +kernel), List.mem_of_getElem? (i := 1474) (by decide +kernel)⟩
theorem lw_p75 : lw_okq (⟨"YoungerBenchModel", "personOf", "(II)I"⟩, 48) := ⟨⟨by decide +kernel, by decide +kernel⟩, List.mem_of_getElem? (i := 1128) (by decide +kernel), List.mem_of_getElem? (i := 1477) (by decide +kernel), List.mem_of_getElem? (i := 1478) (by decide +kernel)⟩
theorem lw_p76 : lw_okq (⟨"YoungerBenchModel", "birthdayIn", "(II)I"⟩, 48) := ⟨⟨by decide +kernel, by decide +kernel⟩, List.mem_of_getElem? (i := 1128) (by decide +kernel), List.mem_of_getElem? (i := 1481) (by decide +kernel), List.mem_of_getElem? (i := 1482) (by decide +kernel)⟩
theorem lw_p77 : lw_okq (⟨"YoungerBenchModel", "hearsNow", "(I)I"⟩, 48) := ⟨⟨by decide +kernel, by decide +kernel⟩, List.mem_of_getElem? (i := 1128) (by decide +kernel), List.mem_of_getElem? (i := 1485) (by decide +kernel), List.mem_of_getElem? (i := 1486) (by decide +kernel)⟩
theorem lw_p78 : lw_okq (⟨"YoungerBenchModel", "caseOf", "(II)I"⟩, 48) := ⟨⟨by decide +kernel, by decide +kernel⟩, List.mem_of_getElem? (i := 1128) (by decide +kernel), List.mem_of_getElem? (i := 1489) (by decide +kernel), List.mem_of_getElem? (i := 1490) (by decide +kernel)⟩
theorem lw_p79 : lw_okq (⟨"YoungerBenchModel", "sitsOn", "(II)Z"⟩, 48) := ⟨⟨by decide +kernel, by decide +kernel⟩, List.mem_of_getElem? (i := 1128) (by decide +kernel), List.mem_of_getElem? (i := 1493) (by decide +kernel), List.mem_of_getElem? (i := 1494) (by decide +kernel)⟩
def lw_privs_5 : List (MethodName × Nat) := [(⟨"YoungerBenchModel", "takesWord", "(J)Z"⟩, 48), (⟨"YoungerBenchModel", "tested", "()Z"⟩, 48), (⟨"YoungerBenchModel", "fact", "()Z"⟩, 48), (⟨"YoungerBenchModel", "opens", "(I)Z"⟩, 48), (⟨"YoungerBenchModel", "compare", "()Z"⟩, 48), (⟨"YoungerBenchModel", "closes", "()V"⟩, 48), (⟨"YoungerBenchModel", "settles", "(I)V"⟩, 48), (⟨"YoungerBenchModel", "isInside", "()Z"⟩, 48), (⟨"YoungerBenchModel", "isRule", "(I)Z"⟩, 48), (⟨"YoungerBenchModel", "isPerson", "(I)Z"⟩, 48), (⟨"YoungerBenchModel", "ageOn", "(II)I"⟩, 48), (⟨"YoungerBenchModel", "personOf", "(II)I"⟩, 48), (⟨"YoungerBenchModel", "birthdayIn", "(II)I"⟩, 48), (⟨"YoungerBenchModel", "hearsNow", "(I)I"⟩, 48), (⟨"YoungerBenchModel", "caseOf", "(II)I"⟩, 48), (⟨"YoungerBenchModel", "sitsOn", "(II)Z"⟩, 48)]
theorem lw_r5 : ∀ q ∈ lw_privs_5, lw_okq q := List.forall_mem_cons.mpr ⟨lw_p64, List.forall_mem_cons.mpr ⟨lw_p65, List.forall_mem_cons.mpr ⟨lw_p66, List.forall_mem_cons.mpr ⟨lw_p67, List.forall_mem_cons.mpr ⟨lw_p68, List.forall_mem_cons.mpr ⟨lw_p69, List.forall_mem_cons.mpr ⟨lw_p70, List.forall_mem_cons.mpr ⟨lw_p71, List.forall_mem_cons.mpr ⟨lw_p72, List.forall_mem_cons.mpr ⟨lw_p73, List.forall_mem_cons.mpr ⟨lw_p74, List.forall_mem_cons.mpr ⟨lw_p75, List.forall_mem_cons.mpr ⟨lw_p76, List.forall_mem_cons.mpr ⟨lw_p77, List.forall_mem_cons.mpr ⟨lw_p78, List.forall_mem_cons.mpr ⟨lw_p79, fun _ h => absurd h List.not_mem_nil⟩⟩⟩⟩⟩⟩⟩⟩⟩⟩⟩⟩⟩⟩⟩⟩
theorem lw_p80 : lw_okq (⟨"YoungerBenchModel", "isCase", "(I)Z"⟩, 48) := ⟨⟨by decide +kernel, by decide +kernel⟩, List.mem_of_getElem? (i := 1128) (by decide +kernel), List.mem_of_getElem? (i := 1501) (by decide +kernel), List.mem_of_getElem? (i := 1502) (by decide +kernel)⟩
theorem lw_p81 : lw_okq (⟨"YoungerBenchModel", "canHear", "(III)Z"⟩, 48) := ⟨⟨by decide +kernel, by decide +kernel⟩, List.mem_of_getElem? (i := 1128) (by decide +kernel), List.mem_of_getElem? (i := 1511) (by decide +kernel), List.mem_of_getElem? (i := 1512) (by decide +kernel)⟩
theorem lw_p82 : lw_okq (⟨"YoungerBenchModel", "canSit", "(IIII)Z"⟩, 48) := ⟨⟨by decide +kernel, by decide +kernel⟩, List.mem_of_getElem? (i := 1128) (by decide +kernel), List.mem_of_getElem? (i := 1515) (by decide +kernel), List.mem_of_getElem? (i := 1516) (by decide +kernel)⟩
theorem lw_p83 : lw_okq (⟨"YoungerBenchModel", "isYounger", "(II)Z"⟩, 48) := ⟨⟨by decide +kernel, by decide +kernel⟩, List.mem_of_getElem? (i := 1128) (by decide +kernel), List.mem_of_getElem? (i := 1519) (by decide +kernel), List.mem_of_getElem? (i := 1520) (by decide +kernel)⟩
theorem lw_p84 : lw_okq (⟨"YoungerBenchModel", "rightOf", "(III)I"⟩, 48) := ⟨⟨by decide +kernel, by decide +kernel⟩, List.mem_of_getElem? (i := 1128) (by decide +kernel), List.mem_of_getElem? (i := 1530) (by decide +kernel), List.mem_of_getElem? (i := 1531) (by decide +kernel)⟩
theorem lw_p85 : lw_okq (⟨"YoungerBenchModel", "rightIn", "(IIIIIII)I"⟩, 48) := ⟨⟨by decide +kernel, by decide +kernel⟩, List.mem_of_getElem? (i := 1128) (by decide +kernel), List.mem_of_getElem? (i := 1534) (by decide +kernel), List.mem_of_getElem? (i := 1535) (by decide +kernel)⟩
theorem lw_p86 : lw_okq (⟨"YoungerBenchModel", "summedBy", "(I)J"⟩, 48) := ⟨⟨by decide +kernel, by decide +kernel⟩, List.mem_of_getElem? (i := 1128) (by decide +kernel), List.mem_of_getElem? (i := 1539) (by decide +kernel), List.mem_of_getElem? (i := 1540) (by decide +kernel)⟩
theorem lw_p87 : lw_okq (⟨"YoungerBenchModel", "reckons", "(III)J"⟩, 48) := ⟨⟨by decide +kernel, by decide +kernel⟩, List.mem_of_getElem? (i := 1128) (by decide +kernel), List.mem_of_getElem? (i := 1543) (by decide +kernel), List.mem_of_getElem? (i := 1544) (by decide +kernel)⟩
theorem lw_p88 : lw_okq (⟨"YoungerBenchModel", "push", "(J)V"⟩, 48) := ⟨⟨by decide +kernel, by decide +kernel⟩, List.mem_of_getElem? (i := 1128) (by decide +kernel), List.mem_of_getElem? (i := 1547) (by decide +kernel), List.mem_of_getElem? (i := 1548) (by decide +kernel)⟩
theorem lw_p89 : lw_okq (⟨"YoungerBenchModel", "pop", "()J"⟩, 48) := ⟨⟨by decide +kernel, by decide +kernel⟩, List.mem_of_getElem? (i := 1128) (by decide +kernel), List.mem_of_getElem? (i := 1551) (by decide +kernel), List.mem_of_getElem? (i := 1552) (by decide +kernel)⟩
theorem lw_p90 : lw_okq (⟨"YoungerBenchModel", "isTown", "()Z"⟩, 48) := ⟨⟨by decide +kernel, by decide +kernel⟩, List.mem_of_getElem? (i := 1128) (by decide +kernel), List.mem_of_getElem? (i := 1567) (by decide +kernel), List.mem_of_getElem? (i := 1568) (by decide +kernel)⟩
theorem lw_p91 : lw_okq (⟨"YoungerBenchModel", "keepsAct", "()V"⟩, 48) := ⟨⟨by decide +kernel, by decide +kernel⟩, List.mem_of_getElem? (i := 1128) (by decide +kernel), List.mem_of_getElem? (i := 1571) (by decide +kernel), List.mem_of_getElem? (i := 1572) (by decide +kernel)⟩
theorem lw_p92 : lw_okq (⟨"YoungerBenchModel", "passes", "()I"⟩, 48) := ⟨⟨by decide +kernel, by decide +kernel⟩, List.mem_of_getElem? (i := 1128) (by decide +kernel), List.mem_of_getElem? (i := 1575) (by decide +kernel), List.mem_of_getElem? (i := 1576) (by decide +kernel)⟩
theorem lw_p93 : lw_okq (⟨"YoungerBenchModel", "isRuled", "(I)V"⟩, 48) := ⟨⟨by decide +kernel, by decide +kernel⟩, List.mem_of_getElem? (i := 1128) (by decide +kernel), List.mem_of_getElem? (i := 1579) (by decide +kernel), List.mem_of_getElem? (i := 1580) (by decide +kernel)⟩
theorem lw_p94 : lw_okq (⟨"YoungerBenchModel", "mayHear", "(II)Z"⟩, 48) := ⟨⟨by decide +kernel, by decide +kernel⟩, List.mem_of_getElem? (i := 1128) (by decide +kernel), List.mem_of_getElem? (i := 1590) (by decide +kernel), List.mem_of_getElem? (i := 1591) (by decide +kernel)⟩
theorem lw_p95 : lw_okq (⟨"YoungerBenchModel", "begins", "(II)I"⟩, 48) := ⟨⟨by decide +kernel, by decide +kernel⟩, List.mem_of_getElem? (i := 1128) (by decide +kernel), List.mem_of_getElem? (i := 1594) (by decide +kernel), List.mem_of_getElem? (i := 1595) (by decide +kernel)⟩
def lw_privs_6 : List (MethodName × Nat) := [(⟨"YoungerBenchModel", "isCase", "(I)Z"⟩, 48), (⟨"YoungerBenchModel", "canHear", "(III)Z"⟩, 48), (⟨"YoungerBenchModel", "canSit", "(IIII)Z"⟩, 48), (⟨"YoungerBenchModel", "isYounger", "(II)Z"⟩, 48), (⟨"YoungerBenchModel", "rightOf", "(III)I"⟩, 48), (⟨"YoungerBenchModel", "rightIn", "(IIIIIII)I"⟩, 48), (⟨"YoungerBenchModel", "summedBy", "(I)J"⟩, 48), (⟨"YoungerBenchModel", "reckons", "(III)J"⟩, 48), (⟨"YoungerBenchModel", "push", "(J)V"⟩, 48), (⟨"YoungerBenchModel", "pop", "()J"⟩, 48), (⟨"YoungerBenchModel", "isTown", "()Z"⟩, 48), (⟨"YoungerBenchModel", "keepsAct", "()V"⟩, 48), (⟨"YoungerBenchModel", "passes", "()I"⟩, 48), (⟨"YoungerBenchModel", "isRuled", "(I)V"⟩, 48), (⟨"YoungerBenchModel", "mayHear", "(II)Z"⟩, 48), (⟨"YoungerBenchModel", "begins", "(II)I"⟩, 48)]
theorem lw_r6 : ∀ q ∈ lw_privs_6, lw_okq q := List.forall_mem_cons.mpr ⟨lw_p80, List.forall_mem_cons.mpr ⟨lw_p81, List.forall_mem_cons.mpr ⟨lw_p82, List.forall_mem_cons.mpr ⟨lw_p83, List.forall_mem_cons.mpr ⟨lw_p84, List.forall_mem_cons.mpr ⟨lw_p85, List.forall_mem_cons.mpr ⟨lw_p86, List.forall_mem_cons.mpr ⟨lw_p87, List.forall_mem_cons.mpr ⟨lw_p88, List.forall_mem_cons.mpr ⟨lw_p89, List.forall_mem_cons.mpr ⟨lw_p90, List.forall_mem_cons.mpr ⟨lw_p91, List.forall_mem_cons.mpr ⟨lw_p92, List.forall_mem_cons.mpr ⟨lw_p93, List.forall_mem_cons.mpr ⟨lw_p94, List.forall_mem_cons.mpr ⟨lw_p95, fun _ h => absurd h List.not_mem_nil⟩⟩⟩⟩⟩⟩⟩⟩⟩⟩⟩⟩⟩⟩⟩⟩
theorem lw_p96 : lw_okq (⟨"YoungerBenchModel", "benchesNow", "()I"⟩, 48) := ⟨⟨by decide +kernel, by decide +kernel⟩, List.mem_of_getElem? (i := 1128) (by decide +kernel), List.mem_of_getElem? (i := 1611) (by decide +kernel), List.mem_of_getElem? (i := 1612) (by decide +kernel)⟩
theorem lw_p97 : lw_okq (⟨"YoungerBenchModel", "fillsOpen", "()V"⟩, 48) := ⟨⟨by decide +kernel, by decide +kernel⟩, List.mem_of_getElem? (i := 1128) (by decide +kernel), List.mem_of_getElem? (i := 1615) (by decide +kernel), List.mem_of_getElem? (i := 1616) (by decide +kernel)⟩
theorem lw_p98 : lw_okq (⟨"YoungerBenchModel", "fillsSpots", "()V"⟩, 48) := ⟨⟨by decide +kernel, by decide +kernel⟩, List.mem_of_getElem? (i := 1128) (by decide +kernel), List.mem_of_getElem? (i := 1619) (by decide +kernel), List.mem_of_getElem? (i := 1620) (by decide +kernel)⟩
theorem lw_p99 : lw_okq (⟨"YoungerBenchModel", "findsBenches", "()V"⟩, 48) := ⟨⟨by decide +kernel, by decide +kernel⟩, List.mem_of_getElem? (i := 1128) (by decide +kernel), List.mem_of_getElem? (i := 1626) (by decide +kernel), List.mem_of_getElem? (i := 1627) (by decide +kernel)⟩
theorem lw_p100 : lw_okq (⟨"YoungerBenchModel", "beginsPlace", "(I)V"⟩, 48) := ⟨⟨by decide +kernel, by decide +kernel⟩, List.mem_of_getElem? (i := 1128) (by decide +kernel), List.mem_of_getElem? (i := 1630) (by decide +kernel), List.mem_of_getElem? (i := 1631) (by decide +kernel)⟩
theorem lw_p101 : lw_okq (⟨"YoungerBenchModel", "goesOnAt", "(I)Z"⟩, 48) := ⟨⟨by decide +kernel, by decide +kernel⟩, List.mem_of_getElem? (i := 1128) (by decide +kernel), List.mem_of_getElem? (i := 1634) (by decide +kernel), List.mem_of_getElem? (i := 1635) (by decide +kernel)⟩
theorem lw_p102 : lw_okq (⟨"YoungerBenchModel", "firstDay", "(III)I"⟩, 48) := ⟨⟨by decide +kernel, by decide +kernel⟩, List.mem_of_getElem? (i := 1128) (by decide +kernel), List.mem_of_getElem? (i := 1638) (by decide +kernel), List.mem_of_getElem? (i := 1639) (by decide +kernel)⟩
theorem lw_p103 : lw_okq (⟨"YoungerBenchModel", "lengthOf", "(I)I"⟩, 48) := ⟨⟨by decide +kernel, by decide +kernel⟩, List.mem_of_getElem? (i := 1128) (by decide +kernel), List.mem_of_getElem? (i := 1642) (by decide +kernel), List.mem_of_getElem? (i := 1643) (by decide +kernel)⟩
theorem lw_p104 : lw_okq (⟨"YoungerBenchModel", "isBusy", "(IIII)Z"⟩, 48) := ⟨⟨by decide +kernel, by decide +kernel⟩, List.mem_of_getElem? (i := 1128) (by decide +kernel), List.mem_of_getElem? (i := 1646) (by decide +kernel), List.mem_of_getElem? (i := 1647) (by decide +kernel)⟩
theorem lw_p105 : lw_okq (⟨"YoungerBenchModel", "countsRow", "()V"⟩, 48) := ⟨⟨by decide +kernel, by decide +kernel⟩, List.mem_of_getElem? (i := 1128) (by decide +kernel), List.mem_of_getElem? (i := 1650) (by decide +kernel), List.mem_of_getElem? (i := 1651) (by decide +kernel)⟩
theorem lw_p106 : lw_okq (⟨"YoungerBenchModel", "isAhead", "()Z"⟩, 48) := ⟨⟨by decide +kernel, by decide +kernel⟩, List.mem_of_getElem? (i := 1128) (by decide +kernel), List.mem_of_getElem? (i := 1654) (by decide +kernel), List.mem_of_getElem? (i := 1655) (by decide +kernel)⟩
theorem lw_p107 : lw_okq (⟨"YoungerBenchModel", "fillsChains", "(I)V"⟩, 48) := ⟨⟨by decide +kernel, by decide +kernel⟩, List.mem_of_getElem? (i := 1128) (by decide +kernel), List.mem_of_getElem? (i := 1667) (by decide +kernel), List.mem_of_getElem? (i := 1668) (by decide +kernel)⟩
theorem lw_p108 : lw_okq (⟨"YoungerBenchModel", "isNext", "(III)Z"⟩, 48) := ⟨⟨by decide +kernel, by decide +kernel⟩, List.mem_of_getElem? (i := 1128) (by decide +kernel), List.mem_of_getElem? (i := 1671) (by decide +kernel), List.mem_of_getElem? (i := 1672) (by decide +kernel)⟩
theorem lw_p109 : lw_okq (⟨"YoungerBenchModel", "mostRight", "(IIII)I"⟩, 48) := ⟨⟨by decide +kernel, by decide +kernel⟩, List.mem_of_getElem? (i := 1128) (by decide +kernel), List.mem_of_getElem? (i := 1680) (by decide +kernel), List.mem_of_getElem? (i := 1681) (by decide +kernel)⟩
theorem lw_p110 : lw_okq (⟨"YoungerBenchModel", "isTried", "(II)Z"⟩, 48) := ⟨⟨by decide +kernel, by decide +kernel⟩, List.mem_of_getElem? (i := 1128) (by decide +kernel), List.mem_of_getElem? (i := 1688) (by decide +kernel), List.mem_of_getElem? (i := 1689) (by decide +kernel)⟩
theorem lw_p111 : lw_okq (⟨"YoungerBenchModel", "gathersWho", "(I)V"⟩, 48) := ⟨⟨by decide +kernel, by decide +kernel⟩, List.mem_of_getElem? (i := 1128) (by decide +kernel), List.mem_of_getElem? (i := 1706) (by decide +kernel), List.mem_of_getElem? (i := 1707) (by decide +kernel)⟩
def lw_privs_7 : List (MethodName × Nat) := [(⟨"YoungerBenchModel", "benchesNow", "()I"⟩, 48), (⟨"YoungerBenchModel", "fillsOpen", "()V"⟩, 48), (⟨"YoungerBenchModel", "fillsSpots", "()V"⟩, 48), (⟨"YoungerBenchModel", "findsBenches", "()V"⟩, 48), (⟨"YoungerBenchModel", "beginsPlace", "(I)V"⟩, 48), (⟨"YoungerBenchModel", "goesOnAt", "(I)Z"⟩, 48), (⟨"YoungerBenchModel", "firstDay", "(III)I"⟩, 48), (⟨"YoungerBenchModel", "lengthOf", "(I)I"⟩, 48), (⟨"YoungerBenchModel", "isBusy", "(IIII)Z"⟩, 48), (⟨"YoungerBenchModel", "countsRow", "()V"⟩, 48), (⟨"YoungerBenchModel", "isAhead", "()Z"⟩, 48), (⟨"YoungerBenchModel", "fillsChains", "(I)V"⟩, 48), (⟨"YoungerBenchModel", "isNext", "(III)Z"⟩, 48), (⟨"YoungerBenchModel", "mostRight", "(IIII)I"⟩, 48), (⟨"YoungerBenchModel", "isTried", "(II)Z"⟩, 48), (⟨"YoungerBenchModel", "gathersWho", "(I)V"⟩, 48)]
theorem lw_r7 : ∀ q ∈ lw_privs_7, lw_okq q := List.forall_mem_cons.mpr ⟨lw_p96, List.forall_mem_cons.mpr ⟨lw_p97, List.forall_mem_cons.mpr ⟨lw_p98, List.forall_mem_cons.mpr ⟨lw_p99, List.forall_mem_cons.mpr ⟨lw_p100, List.forall_mem_cons.mpr ⟨lw_p101, List.forall_mem_cons.mpr ⟨lw_p102, List.forall_mem_cons.mpr ⟨lw_p103, List.forall_mem_cons.mpr ⟨lw_p104, List.forall_mem_cons.mpr ⟨lw_p105, List.forall_mem_cons.mpr ⟨lw_p106, List.forall_mem_cons.mpr ⟨lw_p107, List.forall_mem_cons.mpr ⟨lw_p108, List.forall_mem_cons.mpr ⟨lw_p109, List.forall_mem_cons.mpr ⟨lw_p110, List.forall_mem_cons.mpr ⟨lw_p111, fun _ h => absurd h List.not_mem_nil⟩⟩⟩⟩⟩⟩⟩⟩⟩⟩⟩⟩⟩⟩⟩⟩
theorem lw_p112 : lw_okq (⟨"YoungerBenchModel", "areFactsSo", "(III)Z"⟩, 48) := ⟨⟨by decide +kernel, by decide +kernel⟩, List.mem_of_getElem? (i := 1128) (by decide +kernel), List.mem_of_getElem? (i := 1710) (by decide +kernel), List.mem_of_getElem? (i := 1711) (by decide +kernel)⟩
theorem lw_p113 : lw_okq (⟨"YoungerBenchModel", "factValue", "(IIII)I"⟩, 48) := ⟨⟨by decide +kernel, by decide +kernel⟩, List.mem_of_getElem? (i := 1128) (by decide +kernel), List.mem_of_getElem? (i := 1714) (by decide +kernel), List.mem_of_getElem? (i := 1715) (by decide +kernel)⟩
theorem lw_p114 : lw_okq (⟨"YoungerBenchModel", "rightThen", "(III)I"⟩, 48) := ⟨⟨by decide +kernel, by decide +kernel⟩, List.mem_of_getElem? (i := 1128) (by decide +kernel), List.mem_of_getElem? (i := 1718) (by decide +kernel), List.mem_of_getElem? (i := 1719) (by decide +kernel)⟩
theorem lw_p115 : lw_okq (⟨"YoungerBenchModel", "alikeBy", "(II)I"⟩, 48) := ⟨⟨by decide +kernel, by decide +kernel⟩, List.mem_of_getElem? (i := 1128) (by decide +kernel), List.mem_of_getElem? (i := 1726) (by decide +kernel), List.mem_of_getElem? (i := 1727) (by decide +kernel)⟩
theorem lw_p116 : lw_okq (⟨"YoungerBenchModel", "hearsDrawn", "()V"⟩, 48) := ⟨⟨by decide +kernel, by decide +kernel⟩, List.mem_of_getElem? (i := 1128) (by decide +kernel), List.mem_of_getElem? (i := 1740) (by decide +kernel), List.mem_of_getElem? (i := 1741) (by decide +kernel)⟩
theorem lw_p117 : lw_okq (⟨"YoungerBenchModel", "draw", "(I)I"⟩, 48) := ⟨⟨by decide +kernel, by decide +kernel⟩, List.mem_of_getElem? (i := 1128) (by decide +kernel), List.mem_of_getElem? (i := 1744) (by decide +kernel), List.mem_of_getElem? (i := 1745) (by decide +kernel)⟩
def lw_privs_8 : List (MethodName × Nat) := [(⟨"YoungerBenchModel", "areFactsSo", "(III)Z"⟩, 48), (⟨"YoungerBenchModel", "factValue", "(IIII)I"⟩, 48), (⟨"YoungerBenchModel", "rightThen", "(III)I"⟩, 48), (⟨"YoungerBenchModel", "alikeBy", "(II)I"⟩, 48), (⟨"YoungerBenchModel", "hearsDrawn", "()V"⟩, 48), (⟨"YoungerBenchModel", "draw", "(I)I"⟩, 48)]
theorem lw_r8 : ∀ q ∈ lw_privs_8, lw_okq q := List.forall_mem_cons.mpr ⟨lw_p112, List.forall_mem_cons.mpr ⟨lw_p113, List.forall_mem_cons.mpr ⟨lw_p114, List.forall_mem_cons.mpr ⟨lw_p115, List.forall_mem_cons.mpr ⟨lw_p116, List.forall_mem_cons.mpr ⟨lw_p117, fun _ h => absurd h List.not_mem_nil⟩⟩⟩⟩⟩⟩
def lw_privs : List (MethodName × Nat) := lw_privs_1 ++ (lw_privs_2 ++ (lw_privs_3 ++ (lw_privs_4 ++ (lw_privs_5 ++ (lw_privs_6 ++ (lw_privs_7 ++ (lw_privs_8)))))))
def lw_tbl : List Cond := k2_sels lw_privs ++ tables_1
theorem lw_privs_ok : ∀ q ∈ lw_privs, lw_okq q := by
  show ∀ q ∈ lw_privs_1 ++ (lw_privs_2 ++ (lw_privs_3 ++ (lw_privs_4 ++ (lw_privs_5 ++ (lw_privs_6 ++ (lw_privs_7 ++ (lw_privs_8))))))), lw_okq q
  exact List.forall_mem_append.mpr ⟨lw_r1, List.forall_mem_append.mpr ⟨lw_r2, List.forall_mem_append.mpr ⟨lw_r3, List.forall_mem_append.mpr ⟨lw_r4, List.forall_mem_append.mpr ⟨lw_r5, List.forall_mem_append.mpr ⟨lw_r6, List.forall_mem_append.mpr ⟨lw_r7, lw_r8⟩⟩⟩⟩⟩⟩⟩
def RX0 : String := "YoungerBench$Course"
def TX0 : u_T := fun k => match k with
  | 0 => ("YoungerBench$Course", "wit", "[I", true)
  | 1 => ("YoungerBench$Course", "ruled", "[I", true)
  | 2 => ("YoungerBench$Course", "judge", "[I", true)
  | 3 => ("YoungerBench$Course", "toGo", "[I", true)
  | 4 => ("YoungerBench$Course", "rightToBe", "[I", true)
  | 5 => ("YoungerBench$Course", "ruler", "[I", true)
  | 6 => ("YoungerBench$Course", "right", "[I", true)
  | 7 => ("YoungerBench$Course", "rulerAge", "[I", true)
  | 8 => ("YoungerBench$Course", "times", "[I", true)
  | _ => ("YoungerBench$Course", "day", "I", false)
def tyX0 : Nat → FieldType := fun k => match k with
  | 0 => .array .int
  | 1 => .array .int
  | 2 => .array .int
  | 3 => .array .int
  | 4 => .array .int
  | 5 => .array .int
  | 6 => .array .int
  | 7 => .array .int
  | 8 => .array .int
  | _ => .int
abbrev wsX00 : List Cond := u_ws RX0 TX0 10
theorem nmX0 : ∀ a, a < 10 → ∀ b, b < 10 → a ≠ b → (TX0 a).2.1 ≠ (TX0 b).2.1 := by decide +kernel
theorem tyX0_ok : ∀ k, k < 10 → parseFieldDescriptor (TX0 k).2.2.1 = some (tyX0 k) := by decide +kernel
abbrev cX0_init : ByteArray := prog_2_method_1_code
def yX0_init : MethodName := ⟨RX0, "<init>", "()V"⟩
abbrev cX0_start : ByteArray := prog_2_method_2_code
def yX0_start : MethodName := ⟨RX0, "start", "(LYoungerBench$Town;)V"⟩
abbrev cX0_copy : ByteArray := prog_2_method_3_code
def yX0_copy : MethodName := ⟨RX0, "copy", "(LYoungerBench$Course;)V"⟩
abbrev cX0_heardBy : ByteArray := prog_2_method_4_code
def yX0_heardBy : MethodName := ⟨RX0, "heardBy", "(I)I"⟩
abbrev cX0_pass : ByteArray := prog_2_method_5_code
def yX0_pass : MethodName := ⟨RX0, "pass", "(LYoungerBench$Town;)I"⟩
abbrev cX0_settleCase : ByteArray := prog_2_method_6_code
def yX0_settleCase : MethodName := ⟨RX0, "settleCase", "(ILYoungerBench$Town;)V"⟩
abbrev cX0_heardBits : ByteArray := prog_2_method_7_code
def yX0_heardBits : MethodName := ⟨RX0, "heardBits", "(I)I"⟩
abbrev cX0_ruledBits : ByteArray := prog_2_method_8_code
def yX0_ruledBits : MethodName := ⟨RX0, "ruledBits", "(I)I"⟩
def RX1 : String := "YoungerBench$Law"
def TX1 : u_T := fun k => match k with
  | 0 => ("YoungerBench$Law", "state", "LYoungerBench$State;", true)
  | 1 => ("YoungerBench$Law", "rules", "[LYoungerBench$Rule;", true)
  | 2 => ("YoungerBench$Law", "words", "[J", true)
  | _ => ("YoungerBench$Law", "stack", "[J", true)
def tyX1 : Nat → FieldType := fun k => match k with
  | 0 => .object "YoungerBench$State"
  | 1 => .array (.object "YoungerBench$Rule")
  | 2 => .array .long
  | _ => .array .long
abbrev wsX10 : List Cond := u_ws RX1 TX1 4
theorem nmX1 : ∀ a, a < 4 → ∀ b, b < 4 → a ≠ b → (TX1 a).2.1 ≠ (TX1 b).2.1 := by decide +kernel
theorem tyX1_ok : ∀ k, k < 4 → parseFieldDescriptor (TX1 k).2.2.1 = some (tyX1 k) := by decide +kernel
abbrev cX1_init : ByteArray := prog_3_method_1_code
def yX1_init : MethodName := ⟨RX1, "<init>", "(LYoungerBench$State;[LYoungerBench$Rule;)V"⟩
abbrev cX1_canSit : ByteArray := prog_3_method_2_code
def yX1_canSit : MethodName := ⟨RX1, "canSit", "(IIII)Z"⟩
abbrev cX1_canHear : ByteArray := prog_3_method_3_code
def yX1_canHear : MethodName := ⟨RX1, "canHear", "(III)Z"⟩
abbrev cX1_mayHear : ByteArray := prog_3_method_4_code
def yX1_mayHear : MethodName := ⟨RX1, "mayHear", "(II)Z"⟩
abbrev cX1_begin : ByteArray := prog_3_method_5_code
def yX1_begin : MethodName := ⟨RX1, "begin", "(II)V"⟩
abbrev cX1_charge : ByteArray := prog_3_method_6_code
def yX1_charge : MethodName := ⟨RX1, "charge", "(IIII)V"⟩
abbrev cX1_chargeOf : ByteArray := prog_3_method_7_code
def yX1_chargeOf : MethodName := ⟨RX1, "chargeOf", "(II)V"⟩
abbrev cX1_rightNow : ByteArray := prog_3_method_8_code
def yX1_rightNow : MethodName := ⟨RX1, "rightNow", "(II)I"⟩
abbrev cX1_rightOf : ByteArray := prog_3_method_9_code
def yX1_rightOf : MethodName := ⟨RX1, "rightOf", "(III)I"⟩
abbrev cX1_nameJudge : ByteArray := prog_3_method_10_code
def yX1_nameJudge : MethodName := ⟨RX1, "nameJudge", "(III)V"⟩
def RX2 : String := "YoungerBench$Past"
def TX2 : u_T := fun k => match k with
  | 0 => ("YoungerBench$Past", "ring", "[LYoungerBench$Course;", true)
  | 1 => ("YoungerBench$Past", "next", "I", false)
  | _ => ("YoungerBench$Past", "many", "I", false)
def tyX2 : Nat → FieldType := fun k => match k with
  | 0 => .array (.object "YoungerBench$Course")
  | 1 => .int
  | _ => .int
abbrev wsX20 : List Cond := u_ws RX2 TX2 3
theorem nmX2 : ∀ a, a < 3 → ∀ b, b < 3 → a ≠ b → (TX2 a).2.1 ≠ (TX2 b).2.1 := by decide +kernel
theorem tyX2_ok : ∀ k, k < 3 → parseFieldDescriptor (TX2 k).2.2.1 = some (tyX2 k) := by decide +kernel
abbrev cX2_init : ByteArray := prog_4_method_1_code
def yX2_init : MethodName := ⟨RX2, "<init>", "()V"⟩
abbrev cX2_forget : ByteArray := prog_4_method_2_code
def yX2_forget : MethodName := ⟨RX2, "forget", "()V"⟩
abbrev cX2_keep : ByteArray := prog_4_method_3_code
def yX2_keep : MethodName := ⟨RX2, "keep", "(LYoungerBench$Course;)V"⟩
abbrev cX2_takeBack : ByteArray := prog_4_method_4_code
def yX2_takeBack : MethodName := ⟨RX2, "takeBack", "(LYoungerBench$Course;)Z"⟩
def RX3 : String := "YoungerBench$Reader"
def TX3 : u_T := fun k => match k with
  | 0 => ("YoungerBench$Reader", "text", "[I", true)
  | 1 => ("YoungerBench$Reader", "length", "I", false)
  | 2 => ("YoungerBench$Reader", "place", "I", false)
  | 3 => ("YoungerBench$Reader", "wordEnd", "I", false)
  | _ => ("YoungerBench$Reader", "fault", "I", false)
def tyX3 : Nat → FieldType := fun k => match k with
  | 0 => .array .int
  | 1 => .int
  | 2 => .int
  | 3 => .int
  | _ => .int
abbrev wsX30 : List Cond := u_ws RX3 TX3 5
theorem nmX3 : ∀ a, a < 5 → ∀ b, b < 5 → a ≠ b → (TX3 a).2.1 ≠ (TX3 b).2.1 := by decide +kernel
theorem tyX3_ok : ∀ k, k < 5 → parseFieldDescriptor (TX3 k).2.2.1 = some (tyX3 k) := by decide +kernel
abbrev cX3_init : ByteArray := prog_5_method_1_code
def yX3_init : MethodName := ⟨RX3, "<init>", "([I)V"⟩
abbrev cX3_open : ByteArray := prog_5_method_2_code
def yX3_open : MethodName := ⟨RX3, "open", "(I)V"⟩
abbrev cX3_moveTo : ByteArray := prog_5_method_3_code
def yX3_moveTo : MethodName := ⟨RX3, "moveTo", "(I)V"⟩
abbrev cX3_passSign : ByteArray := prog_5_method_4_code
def yX3_passSign : MethodName := ⟨RX3, "passSign", "()V"⟩
abbrev cX3_passWord : ByteArray := prog_5_method_5_code
def yX3_passWord : MethodName := ⟨RX3, "passWord", "()V"⟩
abbrev cX3_sign : ByteArray := prog_5_method_6_code
def yX3_sign : MethodName := ⟨RX3, "sign", "()I"⟩
abbrev cX3_failAt : ByteArray := prog_5_method_7_code
def yX3_failAt : MethodName := ⟨RX3, "failAt", "(II)Z"⟩
abbrev cX3_fail : ByteArray := prog_5_method_8_code
def yX3_fail : MethodName := ⟨RX3, "fail", "(I)Z"⟩
abbrev cX3_atDigit : ByteArray := prog_5_method_9_code
def yX3_atDigit : MethodName := ⟨RX3, "atDigit", "()Z"⟩
abbrev cX3_word : ByteArray := prog_5_method_10_code
def yX3_word : MethodName := ⟨RX3, "word", "()I"⟩
abbrev cX3_number : ByteArray := prog_5_method_11_code
def yX3_number : MethodName := ⟨RX3, "number", "(II)I"⟩
def RX4 : String := "YoungerBench$Rows"
def TX4 : u_T := fun k => match k with
  | 0 => ("YoungerBench$Rows", "law", "LYoungerBench$Law;", true)
  | 1 => ("YoungerBench$Rows", "longer", "[I", true)
  | 2 => ("YoungerBench$Rows", "shorter", "[I", true)
  | 3 => ("YoungerBench$Rows", "lastOf", "[I", true)
  | 4 => ("YoungerBench$Rows", "begins", "[I", true)
  | 5 => ("YoungerBench$Rows", "rights", "[I", true)
  | 6 => ("YoungerBench$Rows", "open", "[I", true)
  | 7 => ("YoungerBench$Rows", "row", "[I", true)
  | 8 => ("YoungerBench$Rows", "judges", "[I", true)
  | 9 => ("YoungerBench$Rows", "begun", "[I", true)
  | 10 => ("YoungerBench$Rows", "orderOf", "[I", true)
  | 11 => ("YoungerBench$Rows", "bestRow", "[I", true)
  | 12 => ("YoungerBench$Rows", "bestJudges", "[I", true)
  | 13 => ("YoungerBench$Rows", "bestBegins", "[I", true)
  | 14 => ("YoungerBench$Rows", "many", "I", false)
  | 15 => ("YoungerBench$Rows", "bestRight", "I", false)
  | _ => ("YoungerBench$Rows", "bestLast", "I", false)
def tyX4 : Nat → FieldType := fun k => match k with
  | 0 => .object "YoungerBench$Law"
  | 1 => .array .int
  | 2 => .array .int
  | 3 => .array .int
  | 4 => .array .int
  | 5 => .array .int
  | 6 => .array .int
  | 7 => .array .int
  | 8 => .array .int
  | 9 => .array .int
  | 10 => .array .int
  | 11 => .array .int
  | 12 => .array .int
  | 13 => .array .int
  | 14 => .int
  | 15 => .int
  | _ => .int
abbrev wsX40 : List Cond := u_ws RX4 TX4 17
theorem nmX4 : ∀ a, a < 17 → ∀ b, b < 17 → a ≠ b → (TX4 a).2.1 ≠ (TX4 b).2.1 := by decide +kernel
theorem tyX4_ok : ∀ k, k < 17 → parseFieldDescriptor (TX4 k).2.2.1 = some (tyX4 k) := by decide +kernel
abbrev cX4_init : ByteArray := prog_6_method_1_code
def yX4_init : MethodName := ⟨RX4, "<init>", "(LYoungerBench$Law;)V"⟩
abbrev cX4_answer : ByteArray := prog_6_method_2_code
def yX4_answer : MethodName := ⟨RX4, "answer", "(I)I"⟩
abbrev cX4_bestPupil : ByteArray := prog_6_method_3_code
def yX4_bestPupil : MethodName := ⟨RX4, "bestPupil", "(Z)I"⟩
abbrev cX4_gatherOpen : ByteArray := prog_6_method_4_code
def yX4_gatherOpen : MethodName := ⟨RX4, "gatherOpen", "()V"⟩
abbrev cX4_placeAll : ByteArray := prog_6_method_5_code
def yX4_placeAll : MethodName := ⟨RX4, "placeAll", "()V"⟩
abbrev cX4_firstDay : ByteArray := prog_6_method_6_code
def yX4_firstDay : MethodName := ⟨RX4, "firstDay", "(II)I"⟩
abbrev cX4_isFree : ByteArray := prog_6_method_7_code
def yX4_isFree : MethodName := ⟨RX4, "isFree", "(IIII)Z"⟩
abbrev cX4_weigh : ByteArray := prog_6_method_8_code
def yX4_weigh : MethodName := ⟨RX4, "weigh", "(I)V"⟩
abbrev cX4_search : ByteArray := prog_6_method_9_code
def yX4_search : MethodName := ⟨RX4, "search", "()V"⟩
abbrev cX4_tryRows : ByteArray := prog_6_method_10_code
def yX4_tryRows : MethodName := ⟨RX4, "tryRows", "(II)V"⟩
abbrev cX4_tryJudges : ByteArray := prog_6_method_11_code
def yX4_tryJudges : MethodName := ⟨RX4, "tryJudges", "(III)V"⟩
abbrev cX4_keepIfBetter : ByteArray := prog_6_method_12_code
def yX4_keepIfBetter : MethodName := ⟨RX4, "keepIfBetter", "(II)V"⟩
def RX5 : String := "YoungerBench$Rule"
def TX5 : u_T := fun k => match k with
  | _ => ("YoungerBench$Rule", "steps", "[I", true)
def tyX5 : Nat → FieldType := fun k => match k with
  | _ => .array .int
abbrev wsX50 : List Cond := u_ws RX5 TX5 1
theorem nmX5 : ∀ a, a < 1 → ∀ b, b < 1 → a ≠ b → (TX5 a).2.1 ≠ (TX5 b).2.1 := by decide +kernel
theorem tyX5_ok : ∀ k, k < 1 → parseFieldDescriptor (TX5 k).2.2.1 = some (tyX5 k) := by decide +kernel
abbrev cX5_init : ByteArray := prog_7_method_1_code
def yX5_init : MethodName := ⟨RX5, "<init>", "([I)V"⟩
abbrev cX5_sum : ByteArray := prog_7_method_2_code
def yX5_sum : MethodName := ⟨RX5, "sum", "([J[J)J"⟩
abbrev cX5_valueOf : ByteArray := prog_7_method_3_code
def yX5_valueOf : MethodName := ⟨RX5, "valueOf", "(I[J)J"⟩
abbrev cX5_joined : ByteArray := prog_7_method_4_code
def yX5_joined : MethodName := ⟨RX5, "joined", "(IJJ)J"⟩
def RX6 : String := "YoungerBench$RuleReader"
def TX6 : u_T := fun k => match k with
  | 0 => ("YoungerBench$RuleReader", "reader", "LYoungerBench$Reader;", true)
  | 1 => ("YoungerBench$RuleReader", "steps", "[I", true)
  | 2 => ("YoungerBench$RuleReader", "many", "I", false)
  | _ => ("YoungerBench$RuleReader", "values", "I", false)
def tyX6 : Nat → FieldType := fun k => match k with
  | 0 => .object "YoungerBench$Reader"
  | 1 => .array .int
  | 2 => .int
  | _ => .int
abbrev wsX60 : List Cond := u_ws RX6 TX6 4
theorem nmX6 : ∀ a, a < 4 → ∀ b, b < 4 → a ≠ b → (TX6 a).2.1 ≠ (TX6 b).2.1 := by decide +kernel
theorem tyX6_ok : ∀ k, k < 4 → parseFieldDescriptor (TX6 k).2.2.1 = some (tyX6 k) := by decide +kernel
abbrev cX6_init : ByteArray := prog_8_method_1_code
def yX6_init : MethodName := ⟨RX6, "<init>", "(LYoungerBench$Reader;)V"⟩
abbrev cX6_made : ByteArray := prog_8_method_2_code
def yX6_made : MethodName := ⟨RX6, "made", "()LYoungerBench$Rule;"⟩
abbrev cX6_reads : ByteArray := prog_8_method_3_code
def yX6_reads : MethodName := ⟨RX6, "reads", "()Z"⟩
abbrev cX6_put : ByteArray := prog_8_method_4_code
def yX6_put : MethodName := ⟨RX6, "put", "(I)V"⟩
abbrev cX6_readsTest : ByteArray := prog_8_method_5_code
def yX6_readsTest : MethodName := ⟨RX6, "readsTest", "(I)Z"⟩
abbrev cX6_readsFact : ByteArray := prog_8_method_6_code
def yX6_readsFact : MethodName := ⟨RX6, "readsFact", "(I)Z"⟩
abbrev cX6_readsComparison : ByteArray := prog_8_method_7_code
def yX6_readsComparison : MethodName := ⟨RX6, "readsComparison", "()I"⟩
abbrev cX6_comparison : ByteArray := prog_8_method_8_code
def yX6_comparison : MethodName := ⟨RX6, "comparison", "()I"⟩
abbrev cX6_readsSum : ByteArray := prog_8_method_9_code
def yX6_readsSum : MethodName := ⟨RX6, "readsSum", "()Z"⟩
abbrev cX6_timesOrBy : ByteArray := prog_8_method_10_code
def yX6_timesOrBy : MethodName := ⟨RX6, "timesOrBy", "()I"⟩
abbrev cX6_plusOrMinus : ByteArray := prog_8_method_11_code
def yX6_plusOrMinus : MethodName := ⟨RX6, "plusOrMinus", "()I"⟩
abbrev cX6_readsValue : ByteArray := prog_8_method_12_code
def yX6_readsValue : MethodName := ⟨RX6, "readsValue", "()Z"⟩
def RX7 : String := "YoungerBench$Sieve"
def TX7 : u_T := fun k => match k with
  | 0 => ("YoungerBench$Sieve", "law", "LYoungerBench$Law;", true)
  | 1 => ("YoungerBench$Sieve", "byJudge", "[I", true)
  | 2 => ("YoungerBench$Sieve", "byDay", "[I", true)
  | 3 => ("YoungerBench$Sieve", "byRight", "[I", true)
  | 4 => ("YoungerBench$Sieve", "many", "I", false)
  | 5 => ("YoungerBench$Sieve", "judge", "I", false)
  | 6 => ("YoungerBench$Sieve", "day", "I", false)
  | _ => ("YoungerBench$Sieve", "bits", "I", false)
def tyX7 : Nat → FieldType := fun k => match k with
  | 0 => .object "YoungerBench$Law"
  | 1 => .array .int
  | 2 => .array .int
  | 3 => .array .int
  | 4 => .int
  | 5 => .int
  | 6 => .int
  | _ => .int
abbrev wsX70 : List Cond := u_ws RX7 TX7 8
theorem nmX7 : ∀ a, a < 8 → ∀ b, b < 8 → a ≠ b → (TX7 a).2.1 ≠ (TX7 b).2.1 := by decide +kernel
theorem tyX7_ok : ∀ k, k < 8 → parseFieldDescriptor (TX7 k).2.2.1 = some (tyX7 k) := by decide +kernel
abbrev cX7_init : ByteArray := prog_9_method_1_code
def yX7_init : MethodName := ⟨RX7, "<init>", "(LYoungerBench$Law;)V"⟩
abbrev cX7_sift : ByteArray := prog_9_method_2_code
def yX7_sift : MethodName := ⟨RX7, "sift", "(I)V"⟩
abbrev cX7_weigh : ByteArray := prog_9_method_3_code
def yX7_weigh : MethodName := ⟨RX7, "weigh", "(III)V"⟩
abbrev cX7_part : ByteArray := prog_9_method_4_code
def yX7_part : MethodName := ⟨RX7, "part", "(Z)I"⟩
abbrev cX7_most : ByteArray := prog_9_method_5_code
def yX7_most : MethodName := ⟨RX7, "most", "([I)I"⟩
def RX8 : String := "YoungerBench$State"
def TX8 : u_T := fun k => match k with
  | 0 => ("YoungerBench$State", "town", "LYoungerBench$Town;", true)
  | 1 => ("YoungerBench$State", "course", "LYoungerBench$Course;", true)
  | 2 => ("YoungerBench$State", "factTrials", "[I", true)
  | 3 => ("YoungerBench$State", "factWhats", "[I", true)
  | 4 => ("YoungerBench$State", "factNumbers", "[I", true)
  | 5 => ("YoungerBench$State", "facts", "I", false)
  | 6 => ("YoungerBench$State", "inForce", "I", false)
  | _ => ("YoungerBench$State", "x", "I", false)
def tyX8 : Nat → FieldType := fun k => match k with
  | 0 => .object "YoungerBench$Town"
  | 1 => .object "YoungerBench$Course"
  | 2 => .array .int
  | 3 => .array .int
  | 4 => .array .int
  | 5 => .int
  | 6 => .int
  | _ => .int
abbrev wsX80 : List Cond := u_ws RX8 TX8 8
theorem nmX8 : ∀ a, a < 8 → ∀ b, b < 8 → a ≠ b → (TX8 a).2.1 ≠ (TX8 b).2.1 := by decide +kernel
theorem tyX8_ok : ∀ k, k < 8 → parseFieldDescriptor (TX8 k).2.2.1 = some (tyX8 k) := by decide +kernel
abbrev cX8_init : ByteArray := prog_10_method_1_code
def yX8_init : MethodName := ⟨RX8, "<init>", "()V"⟩
abbrev cX8_copy : ByteArray := prog_10_method_2_code
def yX8_copy : MethodName := ⟨RX8, "copy", "(LYoungerBench$State;)V"⟩
abbrev cX8_settle : ByteArray := prog_10_method_3_code
def yX8_settle : MethodName := ⟨RX8, "settle", "(LYoungerBench$Town;)V"⟩
abbrev cX8_addFact : ByteArray := prog_10_method_4_code
def yX8_addFact : MethodName := ⟨RX8, "addFact", "(III)V"⟩
abbrev cX8_factsAllow : ByteArray := prog_10_method_5_code
def yX8_factsAllow : MethodName := ⟨RX8, "factsAllow", "(IIIII)Z"⟩
abbrev cX8_draw : ByteArray := prog_10_method_6_code
def yX8_draw : MethodName := ⟨RX8, "draw", "()I"⟩
def RX9 : String := "YoungerBench$Town"
def TX9 : u_T := fun k => match k with
  | 0 => ("YoungerBench$Town", "age", "[I", true)
  | 1 => ("YoungerBench$Town", "wit", "[I", true)
  | 2 => ("YoungerBench$Town", "sweets", "[I", true)
  | 3 => ("YoungerBench$Town", "twins", "[I", true)
  | 4 => ("YoungerBench$Town", "accused", "[I", true)
  | 5 => ("YoungerBench$Town", "gravity", "[I", true)
  | 6 => ("YoungerBench$Town", "length", "[I", true)
  | 7 => ("YoungerBench$Town", "from", "[I", true)
  | 8 => ("YoungerBench$Town", "told", "Z", false)
  | 9 => ("YoungerBench$Town", "gap", "I", false)
  | 10 => ("YoungerBench$Town", "year", "I", false)
  | 11 => ("YoungerBench$Town", "first", "I", false)
  | 12 => ("YoungerBench$Town", "last", "I", false)
  | 13 => ("YoungerBench$Town", "people", "I", false)
  | _ => ("YoungerBench$Town", "cases", "I", false)
def tyX9 : Nat → FieldType := fun k => match k with
  | 0 => .array .int
  | 1 => .array .int
  | 2 => .array .int
  | 3 => .array .int
  | 4 => .array .int
  | 5 => .array .int
  | 6 => .array .int
  | 7 => .array .int
  | 8 => .boolean
  | 9 => .int
  | 10 => .int
  | 11 => .int
  | 12 => .int
  | 13 => .int
  | _ => .int
abbrev wsX90 : List Cond := u_ws RX9 TX9 15
theorem nmX9 : ∀ a, a < 15 → ∀ b, b < 15 → a ≠ b → (TX9 a).2.1 ≠ (TX9 b).2.1 := by decide +kernel
theorem tyX9_ok : ∀ k, k < 15 → parseFieldDescriptor (TX9 k).2.2.1 = some (tyX9 k) := by decide +kernel
abbrev cX9_init : ByteArray := prog_11_method_1_code
def yX9_init : MethodName := ⟨RX9, "<init>", "()V"⟩
abbrev cX9_clear : ByteArray := prog_11_method_2_code
def yX9_clear : MethodName := ⟨RX9, "clear", "()V"⟩
abbrev cX9_copy : ByteArray := prog_11_method_3_code
def yX9_copy : MethodName := ⟨RX9, "copy", "(LYoungerBench$Town;)V"⟩
abbrev cX9_hasPerson : ByteArray := prog_11_method_4_code
def yX9_hasPerson : MethodName := ⟨RX9, "hasPerson", "(I)Z"⟩
abbrev cX9_hasCase : ByteArray := prog_11_method_5_code
def yX9_hasCase : MethodName := ⟨RX9, "hasCase", "(I)Z"⟩
abbrev cX9_isYounger : ByteArray := prog_11_method_6_code
def yX9_isYounger : MethodName := ⟨RX9, "isYounger", "(II)Z"⟩
abbrev cX9_areTwins : ByteArray := prog_11_method_7_code
def yX9_areTwins : MethodName := ⟨RX9, "areTwins", "(II)Z"⟩
abbrev cX9_sits : ByteArray := prog_11_method_8_code
def yX9_sits : MethodName := ⟨RX9, "sits", "(I)Z"⟩
abbrev cX9_tillBirthday : ByteArray := prog_11_method_9_code
def yX9_tillBirthday : MethodName := ⟨RX9, "tillBirthday", "(I)I"⟩
def RX10 : String := "YoungerBench$TownReader"
def TX10 : u_T := fun k => match k with
  | 0 => ("YoungerBench$TownReader", "reader", "LYoungerBench$Reader;", true)
  | 1 => ("YoungerBench$TownReader", "town", "LYoungerBench$Town;", true)
  | 2 => ("YoungerBench$TownReader", "clauses", "I", false)
  | 3 => ("YoungerBench$TownReader", "pairs", "I", false)
  | _ => ("YoungerBench$TownReader", "benchTold", "Z", false)
def tyX10 : Nat → FieldType := fun k => match k with
  | 0 => .object "YoungerBench$Reader"
  | 1 => .object "YoungerBench$Town"
  | 2 => .int
  | 3 => .int
  | _ => .boolean
abbrev wsX100 : List Cond := u_ws RX10 TX10 5
theorem nmX10 : ∀ a, a < 5 → ∀ b, b < 5 → a ≠ b → (TX10 a).2.1 ≠ (TX10 b).2.1 := by decide +kernel
theorem tyX10_ok : ∀ k, k < 5 → parseFieldDescriptor (TX10 k).2.2.1 = some (tyX10 k) := by decide +kernel
abbrev cX10_init : ByteArray := prog_12_method_1_code
def yX10_init : MethodName := ⟨RX10, "<init>", "(LYoungerBench$Reader;LYoungerBench$Town;)V"⟩
abbrev cX10_reads : ByteArray := prog_12_method_2_code
def yX10_reads : MethodName := ⟨RX10, "reads", "()Z"⟩
abbrev cX10_readsClause : ByteArray := prog_12_method_3_code
def yX10_readsClause : MethodName := ⟨RX10, "readsClause", "()Z"⟩
abbrev cX10_isOneTooMany : ByteArray := prog_12_method_4_code
def yX10_isOneTooMany : MethodName := ⟨RX10, "isOneTooMany", "(I)Z"⟩
abbrev cX10_readsTown : ByteArray := prog_12_method_5_code
def yX10_readsTown : MethodName := ⟨RX10, "readsTown", "()Z"⟩
abbrev cX10_readsBench : ByteArray := prog_12_method_6_code
def yX10_readsBench : MethodName := ⟨RX10, "readsBench", "()Z"⟩
abbrev cX10_readsPerson : ByteArray := prog_12_method_7_code
def yX10_readsPerson : MethodName := ⟨RX10, "readsPerson", "()Z"⟩
abbrev cX10_readsTwins : ByteArray := prog_12_method_8_code
def yX10_readsTwins : MethodName := ⟨RX10, "readsTwins", "()Z"⟩
abbrev cX10_readsCase : ByteArray := prog_12_method_9_code
def yX10_readsCase : MethodName := ⟨RX10, "readsCase", "()Z"⟩
def RX11 : String := "YoungerBench"
def TX11 : u_T := fun k => match k with
  | 0 => ("YoungerBench", "tape", "[I", true)
  | 1 => ("YoungerBench", "reader", "LYoungerBench$Reader;", true)
  | 2 => ("YoungerBench", "rules", "[LYoungerBench$Rule;", true)
  | 3 => ("YoungerBench", "now", "LYoungerBench$State;", true)
  | 4 => ("YoungerBench", "images", "[LYoungerBench$State;", true)
  | 5 => ("YoungerBench", "past", "LYoungerBench$Past;", true)
  | 6 => ("YoungerBench", "law", "LYoungerBench$Law;", true)
  | 7 => ("YoungerBench", "rows", "LYoungerBench$Rows;", true)
  | 8 => ("YoungerBench", "sieve", "LYoungerBench$Sieve;", true)
  | 9 => ("YoungerBench", "draft", "LYoungerBench$Town;", true)
  | 10 => ("YoungerBench", "townReader", "LYoungerBench$TownReader;", true)
  | 11 => ("YoungerBench", "ruleReader", "LYoungerBench$RuleReader;", true)
  | 12 => ("YoungerBench", "kept", "LYoungerBench$Course;", true)
  | 13 => ("YoungerBench", "chains", "[I", true)
  | 14 => ("YoungerBench", "tapeBytes", "I", false)
  | _ => ("YoungerBench", "rulesTold", "I", false)
def tyX11 : Nat → FieldType := fun k => match k with
  | 0 => .array .int
  | 1 => .object "YoungerBench$Reader"
  | 2 => .array (.object "YoungerBench$Rule")
  | 3 => .object "YoungerBench$State"
  | 4 => .array (.object "YoungerBench$State")
  | 5 => .object "YoungerBench$Past"
  | 6 => .object "YoungerBench$Law"
  | 7 => .object "YoungerBench$Rows"
  | 8 => .object "YoungerBench$Sieve"
  | 9 => .object "YoungerBench$Town"
  | 10 => .object "YoungerBench$TownReader"
  | 11 => .object "YoungerBench$RuleReader"
  | 12 => .object "YoungerBench$Course"
  | 13 => .array .int
  | 14 => .int
  | _ => .int
abbrev wsX110 : List Cond := u_ws RX11 TX11 16
theorem nmX11 : ∀ a, a < 16 → ∀ b, b < 16 → a ≠ b → (TX11 a).2.1 ≠ (TX11 b).2.1 := by decide +kernel
theorem tyX11_ok : ∀ k, k < 16 → parseFieldDescriptor (TX11 k).2.2.1 = some (tyX11 k) := by decide +kernel
abbrev cX11_init : ByteArray := prog_1_method_1_code
def yX11_init : MethodName := ⟨RX11, "<init>", "()V"⟩
abbrev cX11_feed : ByteArray := prog_1_method_2_code
def yX11_feed : MethodName := ⟨RX11, "feed", "(IIIII)I"⟩
abbrev cX11_putBytes : ByteArray := prog_1_method_3_code
def yX11_putBytes : MethodName := ⟨RX11, "putBytes", "(I)V"⟩
abbrev cX11_end : ByteArray := prog_1_method_4_code
def yX11_end : MethodName := ⟨RX11, "end", "(I)I"⟩
abbrev cX11_town : ByteArray := prog_1_method_5_code
def yX11_town : MethodName := ⟨RX11, "town", "()I"⟩
abbrev cX11_openTape : ByteArray := prog_1_method_6_code
def yX11_openTape : MethodName := ⟨RX11, "openTape", "()V"⟩
abbrev cX11_rule : ByteArray := prog_1_method_7_code
def yX11_rule : MethodName := ⟨RX11, "rule", "()I"⟩
abbrev cX11_force : ByteArray := prog_1_method_8_code
def yX11_force : MethodName := ⟨RX11, "force", "(I)I"⟩
abbrev cX11_person : ByteArray := prog_1_method_9_code
def yX11_person : MethodName := ⟨RX11, "person", "(II)I"⟩
abbrev cX11_trial : ByteArray := prog_1_method_10_code
def yX11_trial : MethodName := ⟨RX11, "trial", "(II)I"⟩
abbrev cX11_can : ByteArray := prog_1_method_11_code
def yX11_can : MethodName := ⟨RX11, "can", "(III)I"⟩
abbrev cX11_right : ByteArray := prog_1_method_12_code
def yX11_right : MethodName := ⟨RX11, "right", "(II)I"⟩
abbrev cX11_hasBoth : ByteArray := prog_1_method_13_code
def yX11_hasBoth : MethodName := ⟨RX11, "hasBoth", "(II)Z"⟩
abbrev cX11_day : ByteArray := prog_1_method_14_code
def yX11_day : MethodName := ⟨RX11, "day", "()I"⟩
abbrev cX11_hear : ByteArray := prog_1_method_15_code
def yX11_hear : MethodName := ⟨RX11, "hear", "(II)I"⟩
abbrev cX11_teach : ByteArray := prog_1_method_16_code
def yX11_teach : MethodName := ⟨RX11, "teach", "(I)I"⟩
abbrev cX11_undo : ByteArray := prog_1_method_17_code
def yX11_undo : MethodName := ⟨RX11, "undo", "()I"⟩
abbrev cX11_soonest : ByteArray := prog_1_method_18_code
def yX11_soonest : MethodName := ⟨RX11, "soonest", "(II)I"⟩
abbrev cX11_benches : ByteArray := prog_1_method_19_code
def yX11_benches : MethodName := ⟨RX11, "benches", "(I)I"⟩
abbrev cX11_down : ByteArray := prog_1_method_20_code
def yX11_down : MethodName := ⟨RX11, "down", "(II)I"⟩
abbrev cX11_measureChains : ByteArray := prog_1_method_21_code
def yX11_measureChains : MethodName := ⟨RX11, "measureChains", "(I)V"⟩
abbrev cX11_longestBelow : ByteArray := prog_1_method_22_code
def yX11_longestBelow : MethodName := ⟨RX11, "longestBelow", "(I)I"⟩
abbrev cX11_firstBelow : ByteArray := prog_1_method_23_code
def yX11_firstBelow : MethodName := ⟨RX11, "firstBelow", "(II)I"⟩
abbrev cX11_isBelow : ByteArray := prog_1_method_24_code
def yX11_isBelow : MethodName := ⟨RX11, "isBelow", "(II)Z"⟩
abbrev cX11_commit : ByteArray := prog_1_method_25_code
def yX11_commit : MethodName := ⟨RX11, "commit", "(IIIII)I"⟩
abbrev cX11_isDigit : ByteArray := prog_1_method_26_code
def yX11_isDigit : MethodName := ⟨RX11, "isDigit", "(I)Z"⟩
abbrev cX11_mostRight : ByteArray := prog_1_method_27_code
def yX11_mostRight : MethodName := ⟨RX11, "mostRight", "(III)I"⟩
abbrev cX11_above : ByteArray := prog_1_method_28_code
def yX11_above : MethodName := ⟨RX11, "above", "(I)I"⟩
abbrev cX11_isTriable : ByteArray := prog_1_method_29_code
def yX11_isTriable : MethodName := ⟨RX11, "isTriable", "(II)Z"⟩
abbrev cX11_lesson : ByteArray := prog_1_method_30_code
def yX11_lesson : MethodName := ⟨RX11, "lesson", "(I)I"⟩
abbrev cX11_clement : ByteArray := prog_1_method_31_code
def yX11_clement : MethodName := ⟨RX11, "clement", "(II)I"⟩
abbrev cX11_fact : ByteArray := prog_1_method_32_code
def yX11_fact : MethodName := ⟨RX11, "fact", "(III)I"⟩
abbrev cX11_who : ByteArray := prog_1_method_33_code
def yX11_who : MethodName := ⟨RX11, "who", "(II)I"⟩
abbrev cX11_look : ByteArray := prog_1_method_34_code
def yX11_look : MethodName := ⟨RX11, "look", "(II)I"⟩
abbrev cX11_seed : ByteArray := prog_1_method_35_code
def yX11_seed : MethodName := ⟨RX11, "seed", "(I)I"⟩
abbrev cX11_years : ByteArray := prog_1_method_36_code
def yX11_years : MethodName := ⟨RX11, "years", "(III)I"⟩
abbrev cX11_hearByDraw : ByteArray := prog_1_method_37_code
def yX11_hearByDraw : MethodName := ⟨RX11, "hearByDraw", "()V"⟩
abbrev cX11_ruledRightly : ByteArray := prog_1_method_38_code
def yX11_ruledRightly : MethodName := ⟨RX11, "ruledRightly", "(I)I"⟩
abbrev cX11_count : ByteArray := prog_1_method_39_code
def yX11_count : MethodName := ⟨RX11, "count", "(I)I"⟩
abbrev cX11_image : ByteArray := prog_1_method_40_code
def yX11_image : MethodName := ⟨RX11, "image", "(I)I"⟩
abbrev cX11_back : ByteArray := prog_1_method_41_code
def yX11_back : MethodName := ⟨RX11, "back", "(I)I"⟩
def RX12 : String := "YoungerBenchModel"
def TX12 : u_T := fun k => match k with
  | 0 => ("YoungerBenchModel", "tape", "[B", true)
  | 1 => ("YoungerBenchModel", "taped", "I", false)
  | 2 => ("YoungerBenchModel", "rules", "I", false)
  | 3 => ("YoungerBenchModel", "sign", "[I", true)
  | 4 => ("YoungerBenchModel", "length", "[I", true)
  | 5 => ("YoungerBenchModel", "clause", "[I", true)
  | 6 => ("YoungerBenchModel", "clauses", "[I", true)
  | 7 => ("YoungerBenchModel", "read", "[I", true)
  | 8 => ("YoungerBenchModel", "next", "I", false)
  | 9 => ("YoungerBenchModel", "wrong", "I", false)
  | 10 => ("YoungerBenchModel", "number", "I", false)
  | 11 => ("YoungerBenchModel", "text", "I", false)
  | 12 => ("YoungerBenchModel", "made", "I", false)
  | 13 => ("YoungerBenchModel", "deep", "I", false)
  | 14 => ("YoungerBenchModel", "lines", "I", false)
  | 15 => ("YoungerBenchModel", "open", "[I", true)
  | 16 => ("YoungerBenchModel", "opened", "I", false)
  | 17 => ("YoungerBenchModel", "stack", "[J", true)
  | 18 => ("YoungerBenchModel", "top", "I", false)
  | 19 => ("YoungerBenchModel", "word", "[J", true)
  | 20 => ("YoungerBenchModel", "said", "[I", true)
  | 21 => ("YoungerBenchModel", "force", "I", false)
  | 22 => ("YoungerBenchModel", "x", "I", false)
  | 23 => ("YoungerBenchModel", "wasSaid", "[I", true)
  | 24 => ("YoungerBenchModel", "undone", "I", false)
  | 25 => ("YoungerBenchModel", "openMany", "I", false)
  | 26 => ("YoungerBenchModel", "unheard", "[I", true)
  | 27 => ("YoungerBenchModel", "canAt", "[Z", true)
  | 28 => ("YoungerBenchModel", "rightAt", "[I", true)
  | 29 => ("YoungerBenchModel", "rowCase", "[I", true)
  | 30 => ("YoungerBenchModel", "rowJudge", "[I", true)
  | 31 => ("YoungerBenchModel", "rowDay", "[I", true)
  | 32 => ("YoungerBenchModel", "bestCase", "[I", true)
  | 33 => ("YoungerBenchModel", "bestJudge", "[I", true)
  | 34 => ("YoungerBenchModel", "bestDay", "[I", true)
  | 35 => ("YoungerBenchModel", "bestRight", "I", false)
  | 36 => ("YoungerBenchModel", "bestLast", "I", false)
  | 37 => ("YoungerBenchModel", "chain", "[I", true)
  | 38 => ("YoungerBenchModel", "whoMany", "I", false)
  | 39 => ("YoungerBenchModel", "whoJudge", "[I", true)
  | 40 => ("YoungerBenchModel", "whoDay", "[I", true)
  | 41 => ("YoungerBenchModel", "partOf", "[I", true)
  | 42 => ("YoungerBenchModel", "kept", "[I", true)
  | 43 => ("YoungerBenchModel", "drawX", "J", false)
  | 44 => ("YoungerBenchModel", "images", "[I", true)
  | 45 => ("YoungerBenchModel", "imageForce", "[I", true)
  | 46 => ("YoungerBenchModel", "imageX", "[I", true)
  | _ => ("YoungerBenchModel", "isMade", "[Z", true)
def tyX12 : Nat → FieldType := fun k => match k with
  | 0 => .array .byte
  | 1 => .int
  | 2 => .int
  | 3 => .array .int
  | 4 => .array .int
  | 5 => .array .int
  | 6 => .array .int
  | 7 => .array .int
  | 8 => .int
  | 9 => .int
  | 10 => .int
  | 11 => .int
  | 12 => .int
  | 13 => .int
  | 14 => .int
  | 15 => .array .int
  | 16 => .int
  | 17 => .array .long
  | 18 => .int
  | 19 => .array .long
  | 20 => .array .int
  | 21 => .int
  | 22 => .int
  | 23 => .array .int
  | 24 => .int
  | 25 => .int
  | 26 => .array .int
  | 27 => .array .boolean
  | 28 => .array .int
  | 29 => .array .int
  | 30 => .array .int
  | 31 => .array .int
  | 32 => .array .int
  | 33 => .array .int
  | 34 => .array .int
  | 35 => .int
  | 36 => .int
  | 37 => .array .int
  | 38 => .int
  | 39 => .array .int
  | 40 => .array .int
  | 41 => .array .int
  | 42 => .array .int
  | 43 => .long
  | 44 => .array .int
  | 45 => .array .int
  | 46 => .array .int
  | _ => .array .boolean
abbrev wsX120 : List Cond := u_ws RX12 TX12 48
theorem nmX12 : ∀ a, a < 48 → ∀ b, b < 48 → a ≠ b → (TX12 a).2.1 ≠ (TX12 b).2.1 := by decide +kernel
theorem tyX12_ok : ∀ k, k < 48 → parseFieldDescriptor (TX12 k).2.2.1 = some (tyX12 k) := by decide +kernel
abbrev cX12_init : ByteArray := prog_14_method_1_code
def yX12_init : MethodName := ⟨RX12, "<init>", "()V"⟩
abbrev cX12_in : ByteArray := prog_14_method_2_code
def yX12_in : MethodName := ⟨RX12, "in", "(JJJ)Z"⟩
abbrev cX12_isOf : ByteArray := prog_14_method_3_code
def yX12_isOf : MethodName := ⟨RX12, "isOf", "(II)Z"⟩
abbrev cX12_four : ByteArray := prog_14_method_4_code
def yX12_four : MethodName := ⟨RX12, "four", "(I)V"⟩
abbrev cX12_feed : ByteArray := prog_14_method_5_code
def yX12_feed : MethodName := ⟨RX12, "feed", "(IIIII)I"⟩
abbrev cX12_end : ByteArray := prog_14_method_6_code
def yX12_end : MethodName := ⟨RX12, "end", "(I)I"⟩
abbrev cX12_fails : ByteArray := prog_14_method_7_code
def yX12_fails : MethodName := ⟨RX12, "fails", "(II)Z"⟩
abbrev cX12_see : ByteArray := prog_14_method_8_code
def yX12_see : MethodName := ⟨RX12, "see", "()I"⟩
abbrev cX12_isDigit : ByteArray := prog_14_method_9_code
def yX12_isDigit : MethodName := ⟨RX12, "isDigit", "(I)Z"⟩
abbrev cX12_isLetter : ByteArray := prog_14_method_10_code
def yX12_isLetter : MethodName := ⟨RX12, "isLetter", "(I)Z"⟩
abbrev cX12_isWord : ByteArray := prog_14_method_11_code
def yX12_isWord : MethodName := ⟨RX12, "isWord", "(J)Z"⟩
abbrev cX12_passWord : ByteArray := prog_14_method_12_code
def yX12_passWord : MethodName := ⟨RX12, "passWord", "()V"⟩
abbrev cX12_takesWord : ByteArray := prog_14_method_13_code
def yX12_takesWord : MethodName := ⟨RX12, "takesWord", "(J)Z"⟩
abbrev cX12_numberHere : ByteArray := prog_14_method_14_code
def yX12_numberHere : MethodName := ⟨RX12, "numberHere", "(II)Z"⟩
abbrev cX12_wordHere : ByteArray := prog_14_method_15_code
def yX12_wordHere : MethodName := ⟨RX12, "wordHere", "()I"⟩
abbrev cX12_puts : ByteArray := prog_14_method_16_code
def yX12_puts : MethodName := ⟨RX12, "puts", "(II)V"⟩
abbrev cX12_makes : ByteArray := prog_14_method_17_code
def yX12_makes : MethodName := ⟨RX12, "makes", "(I)Z"⟩
abbrev cX12_opens : ByteArray := prog_14_method_18_code
def yX12_opens : MethodName := ⟨RX12, "opens", "(I)Z"⟩
abbrev cX12_strength : ByteArray := prog_14_method_19_code
def yX12_strength : MethodName := ⟨RX12, "strength", "(I)I"⟩
abbrev cX12_settles : ByteArray := prog_14_method_20_code
def yX12_settles : MethodName := ⟨RX12, "settles", "(I)V"⟩
abbrev cX12_value : ByteArray := prog_14_method_21_code
def yX12_value : MethodName := ⟨RX12, "value", "()Z"⟩
abbrev cX12_term : ByteArray := prog_14_method_22_code
def yX12_term : MethodName := ⟨RX12, "term", "()Z"⟩
abbrev cX12_sum : ByteArray := prog_14_method_23_code
def yX12_sum : MethodName := ⟨RX12, "sum", "()Z"⟩
abbrev cX12_compare : ByteArray := prog_14_method_24_code
def yX12_compare : MethodName := ⟨RX12, "compare", "()Z"⟩
abbrev cX12_fact : ByteArray := prog_14_method_25_code
def yX12_fact : MethodName := ⟨RX12, "fact", "()Z"⟩
abbrev cX12_isInside : ByteArray := prog_14_method_26_code
def yX12_isInside : MethodName := ⟨RX12, "isInside", "()Z"⟩
abbrev cX12_closes : ByteArray := prog_14_method_27_code
def yX12_closes : MethodName := ⟨RX12, "closes", "()V"⟩
abbrev cX12_tested : ByteArray := prog_14_method_28_code
def yX12_tested : MethodName := ⟨RX12, "tested", "()Z"⟩
abbrev cX12_isRightHere : ByteArray := prog_14_method_29_code
def yX12_isRightHere : MethodName := ⟨RX12, "isRightHere", "()Z"⟩
abbrev cX12_cellHere : ByteArray := prog_14_method_30_code
def yX12_cellHere : MethodName := ⟨RX12, "cellHere", "(III)Z"⟩
abbrev cX12_isTownHere : ByteArray := prog_14_method_31_code
def yX12_isTownHere : MethodName := ⟨RX12, "isTownHere", "(I)Z"⟩
abbrev cX12_isBenchHere : ByteArray := prog_14_method_32_code
def yX12_isBenchHere : MethodName := ⟨RX12, "isBenchHere", "(I)Z"⟩
abbrev cX12_isPersonHere : ByteArray := prog_14_method_33_code
def yX12_isPersonHere : MethodName := ⟨RX12, "isPersonHere", "(I)Z"⟩
abbrev cX12_areTwinsHere : ByteArray := prog_14_method_34_code
def yX12_areTwinsHere : MethodName := ⟨RX12, "areTwinsHere", "(I)Z"⟩
abbrev cX12_isCaseHere : ByteArray := prog_14_method_35_code
def yX12_isCaseHere : MethodName := ⟨RX12, "isCaseHere", "(I)Z"⟩
abbrev cX12_townLineHere : ByteArray := prog_14_method_36_code
def yX12_townLineHere : MethodName := ⟨RX12, "townLineHere", "(I)Z"⟩
abbrev cX12_isTownWord : ByteArray := prog_14_method_37_code
def yX12_isTownWord : MethodName := ⟨RX12, "isTownWord", "()Z"⟩
abbrev cX12_clauseHere : ByteArray := prog_14_method_38_code
def yX12_clauseHere : MethodName := ⟨RX12, "clauseHere", "()Z"⟩
abbrev cX12_readsAll : ByteArray := prog_14_method_39_code
def yX12_readsAll : MethodName := ⟨RX12, "readsAll", "()Z"⟩
abbrev cX12_rule : ByteArray := prog_14_method_40_code
def yX12_rule : MethodName := ⟨RX12, "rule", "()I"⟩
abbrev cX12_town : ByteArray := prog_14_method_41_code
def yX12_town : MethodName := ⟨RX12, "town", "()I"⟩
abbrev cX12_isRule : ByteArray := prog_14_method_42_code
def yX12_isRule : MethodName := ⟨RX12, "isRule", "(I)Z"⟩
abbrev cX12_push : ByteArray := prog_14_method_43_code
def yX12_push : MethodName := ⟨RX12, "push", "(J)V"⟩
abbrev cX12_pop : ByteArray := prog_14_method_44_code
def yX12_pop : MethodName := ⟨RX12, "pop", "()J"⟩
abbrev cX12_one : ByteArray := prog_14_method_45_code
def yX12_one : MethodName := ⟨RX12, "one", "(IJJ)J"⟩
abbrev cX12_reckons : ByteArray := prog_14_method_46_code
def yX12_reckons : MethodName := ⟨RX12, "reckons", "(III)J"⟩
abbrev cX12_isTown : ByteArray := prog_14_method_47_code
def yX12_isTown : MethodName := ⟨RX12, "isTown", "()Z"⟩
abbrev cX12_isPerson : ByteArray := prog_14_method_48_code
def yX12_isPerson : MethodName := ⟨RX12, "isPerson", "(I)Z"⟩
abbrev cX12_isCase : ByteArray := prog_14_method_49_code
def yX12_isCase : MethodName := ⟨RX12, "isCase", "(I)Z"⟩
abbrev cX12_personOf : ByteArray := prog_14_method_50_code
def yX12_personOf : MethodName := ⟨RX12, "personOf", "(II)I"⟩
abbrev cX12_caseOf : ByteArray := prog_14_method_51_code
def yX12_caseOf : MethodName := ⟨RX12, "caseOf", "(II)I"⟩
abbrev cX12_ageOn : ByteArray := prog_14_method_52_code
def yX12_ageOn : MethodName := ⟨RX12, "ageOn", "(II)I"⟩
abbrev cX12_sitsOn : ByteArray := prog_14_method_53_code
def yX12_sitsOn : MethodName := ⟨RX12, "sitsOn", "(II)Z"⟩
abbrev cX12_birthdayIn : ByteArray := prog_14_method_54_code
def yX12_birthdayIn : MethodName := ⟨RX12, "birthdayIn", "(II)I"⟩
abbrev cX12_isYounger : ByteArray := prog_14_method_55_code
def yX12_isYounger : MethodName := ⟨RX12, "isYounger", "(II)Z"⟩
abbrev cX12_canSit : ByteArray := prog_14_method_56_code
def yX12_canSit : MethodName := ⟨RX12, "canSit", "(IIII)Z"⟩
abbrev cX12_canHear : ByteArray := prog_14_method_57_code
def yX12_canHear : MethodName := ⟨RX12, "canHear", "(III)Z"⟩
abbrev cX12_hearsNow : ByteArray := prog_14_method_58_code
def yX12_hearsNow : MethodName := ⟨RX12, "hearsNow", "(I)I"⟩
abbrev cX12_force : ByteArray := prog_14_method_59_code
def yX12_force : MethodName := ⟨RX12, "force", "(I)I"⟩
abbrev cX12_person : ByteArray := prog_14_method_60_code
def yX12_person : MethodName := ⟨RX12, "person", "(II)I"⟩
abbrev cX12_trial : ByteArray := prog_14_method_61_code
def yX12_trial : MethodName := ⟨RX12, "trial", "(II)I"⟩
abbrev cX12_can : ByteArray := prog_14_method_62_code
def yX12_can : MethodName := ⟨RX12, "can", "(III)I"⟩
abbrev cX12_summedBy : ByteArray := prog_14_method_63_code
def yX12_summedBy : MethodName := ⟨RX12, "summedBy", "(I)J"⟩
abbrev cX12_rightIn : ByteArray := prog_14_method_64_code
def yX12_rightIn : MethodName := ⟨RX12, "rightIn", "(IIIIIII)I"⟩
abbrev cX12_rightOf : ByteArray := prog_14_method_65_code
def yX12_rightOf : MethodName := ⟨RX12, "rightOf", "(III)I"⟩
abbrev cX12_right : ByteArray := prog_14_method_66_code
def yX12_right : MethodName := ⟨RX12, "right", "(II)I"⟩
abbrev cX12_keepsAct : ByteArray := prog_14_method_67_code
def yX12_keepsAct : MethodName := ⟨RX12, "keepsAct", "()V"⟩
abbrev cX12_undo : ByteArray := prog_14_method_68_code
def yX12_undo : MethodName := ⟨RX12, "undo", "()I"⟩
abbrev cX12_isRuled : ByteArray := prog_14_method_69_code
def yX12_isRuled : MethodName := ⟨RX12, "isRuled", "(I)V"⟩
abbrev cX12_passes : ByteArray := prog_14_method_70_code
def yX12_passes : MethodName := ⟨RX12, "passes", "()I"⟩
abbrev cX12_bits : ByteArray := prog_14_method_71_code
def yX12_bits : MethodName := ⟨RX12, "bits", "(I)I"⟩
abbrev cX12_day : ByteArray := prog_14_method_72_code
def yX12_day : MethodName := ⟨RX12, "day", "()I"⟩
abbrev cX12_mayHear : ByteArray := prog_14_method_73_code
def yX12_mayHear : MethodName := ⟨RX12, "mayHear", "(II)Z"⟩
abbrev cX12_begins : ByteArray := prog_14_method_74_code
def yX12_begins : MethodName := ⟨RX12, "begins", "(II)I"⟩
abbrev cX12_hear : ByteArray := prog_14_method_75_code
def yX12_hear : MethodName := ⟨RX12, "hear", "(II)I"⟩
abbrev cX12_teach : ByteArray := prog_14_method_76_code
def yX12_teach : MethodName := ⟨RX12, "teach", "(I)I"⟩
abbrev cX12_soonest : ByteArray := prog_14_method_77_code
def yX12_soonest : MethodName := ⟨RX12, "soonest", "(II)I"⟩
abbrev cX12_spot : ByteArray := prog_14_method_78_code
def yX12_spot : MethodName := ⟨RX12, "spot", "(III)I"⟩
abbrev cX12_fillsOpen : ByteArray := prog_14_method_79_code
def yX12_fillsOpen : MethodName := ⟨RX12, "fillsOpen", "()V"⟩
abbrev cX12_fillsSpots : ByteArray := prog_14_method_80_code
def yX12_fillsSpots : MethodName := ⟨RX12, "fillsSpots", "()V"⟩
abbrev cX12_lengthOf : ByteArray := prog_14_method_81_code
def yX12_lengthOf : MethodName := ⟨RX12, "lengthOf", "(I)I"⟩
abbrev cX12_isBusy : ByteArray := prog_14_method_82_code
def yX12_isBusy : MethodName := ⟨RX12, "isBusy", "(IIII)Z"⟩
abbrev cX12_firstDay : ByteArray := prog_14_method_83_code
def yX12_firstDay : MethodName := ⟨RX12, "firstDay", "(III)I"⟩
abbrev cX12_countsRow : ByteArray := prog_14_method_84_code
def yX12_countsRow : MethodName := ⟨RX12, "countsRow", "()V"⟩
abbrev cX12_isAhead : ByteArray := prog_14_method_85_code
def yX12_isAhead : MethodName := ⟨RX12, "isAhead", "()Z"⟩
abbrev cX12_goesOnAt : ByteArray := prog_14_method_86_code
def yX12_goesOnAt : MethodName := ⟨RX12, "goesOnAt", "(I)Z"⟩
abbrev cX12_beginsPlace : ByteArray := prog_14_method_87_code
def yX12_beginsPlace : MethodName := ⟨RX12, "beginsPlace", "(I)V"⟩
abbrev cX12_findsBenches : ByteArray := prog_14_method_88_code
def yX12_findsBenches : MethodName := ⟨RX12, "findsBenches", "()V"⟩
abbrev cX12_benchesNow : ByteArray := prog_14_method_89_code
def yX12_benchesNow : MethodName := ⟨RX12, "benchesNow", "()I"⟩
abbrev cX12_benches : ByteArray := prog_14_method_90_code
def yX12_benches : MethodName := ⟨RX12, "benches", "(I)I"⟩
abbrev cX12_lesson : ByteArray := prog_14_method_91_code
def yX12_lesson : MethodName := ⟨RX12, "lesson", "(I)I"⟩
abbrev cX12_isNext : ByteArray := prog_14_method_92_code
def yX12_isNext : MethodName := ⟨RX12, "isNext", "(III)Z"⟩
abbrev cX12_fillsChains : ByteArray := prog_14_method_93_code
def yX12_fillsChains : MethodName := ⟨RX12, "fillsChains", "(I)V"⟩
abbrev cX12_down : ByteArray := prog_14_method_94_code
def yX12_down : MethodName := ⟨RX12, "down", "(II)I"⟩
abbrev cX12_mostRight : ByteArray := prog_14_method_95_code
def yX12_mostRight : MethodName := ⟨RX12, "mostRight", "(IIII)I"⟩
abbrev cX12_commit : ByteArray := prog_14_method_96_code
def yX12_commit : MethodName := ⟨RX12, "commit", "(IIIII)I"⟩
abbrev cX12_isTried : ByteArray := prog_14_method_97_code
def yX12_isTried : MethodName := ⟨RX12, "isTried", "(II)Z"⟩
abbrev cX12_above : ByteArray := prog_14_method_98_code
def yX12_above : MethodName := ⟨RX12, "above", "(I)I"⟩
abbrev cX12_clement : ByteArray := prog_14_method_99_code
def yX12_clement : MethodName := ⟨RX12, "clement", "(II)I"⟩
abbrev cX12_fact_ : ByteArray := prog_14_method_100_code
def yX12_fact_ : MethodName := ⟨RX12, "fact", "(III)I"⟩
abbrev cX12_rightThen : ByteArray := prog_14_method_101_code
def yX12_rightThen : MethodName := ⟨RX12, "rightThen", "(III)I"⟩
abbrev cX12_factValue : ByteArray := prog_14_method_102_code
def yX12_factValue : MethodName := ⟨RX12, "factValue", "(IIII)I"⟩
abbrev cX12_areFactsSo : ByteArray := prog_14_method_103_code
def yX12_areFactsSo : MethodName := ⟨RX12, "areFactsSo", "(III)Z"⟩
abbrev cX12_gathersWho : ByteArray := prog_14_method_104_code
def yX12_gathersWho : MethodName := ⟨RX12, "gathersWho", "(I)V"⟩
abbrev cX12_who : ByteArray := prog_14_method_105_code
def yX12_who : MethodName := ⟨RX12, "who", "(II)I"⟩
abbrev cX12_alikeBy : ByteArray := prog_14_method_106_code
def yX12_alikeBy : MethodName := ⟨RX12, "alikeBy", "(II)I"⟩
abbrev cX12_look : ByteArray := prog_14_method_107_code
def yX12_look : MethodName := ⟨RX12, "look", "(II)I"⟩
abbrev cX12_seed : ByteArray := prog_14_method_108_code
def yX12_seed : MethodName := ⟨RX12, "seed", "(I)I"⟩
abbrev cX12_draw : ByteArray := prog_14_method_109_code
def yX12_draw : MethodName := ⟨RX12, "draw", "(I)I"⟩
abbrev cX12_hearsDrawn : ByteArray := prog_14_method_110_code
def yX12_hearsDrawn : MethodName := ⟨RX12, "hearsDrawn", "()V"⟩
abbrev cX12_years : ByteArray := prog_14_method_111_code
def yX12_years : MethodName := ⟨RX12, "years", "(III)I"⟩
abbrev cX12_count : ByteArray := prog_14_method_112_code
def yX12_count : MethodName := ⟨RX12, "count", "(I)I"⟩
abbrev cX12_image : ByteArray := prog_14_method_113_code
def yX12_image : MethodName := ⟨RX12, "image", "(I)I"⟩
abbrev cX12_back : ByteArray := prog_14_method_114_code
def yX12_back : MethodName := ⟨RX12, "back", "(I)I"⟩
def RJ6 : String := "java/lang/Integer"
def TJ6 : u_T := fun k => match k with
  | _ => ("", "", "", false)
def tyJ6 : Nat → FieldType := fun k => match k with
  | _ => .int
theorem nmJ6 : ∀ a, a < 0 → ∀ b, b < 0 → a ≠ b → (TJ6 a).2.1 ≠ (TJ6 b).2.1 := by decide +kernel
theorem tyJ6_ok : ∀ k, k < 0 → parseFieldDescriptor (TJ6 k).2.2.1 = some (tyJ6 k) := by decide +kernel
abbrev cJ6_bitCount_0f7a4 : ByteArray := prog_16_method_49_code
def yJ6_bitCount_0f7a4 : MethodName := ⟨RJ6, "bitCount", "(I)I"⟩
def RJ9 : String := "java/lang/Math"
def TJ9 : u_T := fun k => match k with
  | _ => ("", "", "", false)
def tyJ9 : Nat → FieldType := fun k => match k with
  | _ => .int
theorem nmJ9 : ∀ a, a < 0 → ∀ b, b < 0 → a ≠ b → (TJ9 a).2.1 ≠ (TJ9 b).2.1 := by decide +kernel
theorem tyJ9_ok : ∀ k, k < 0 → parseFieldDescriptor (TJ9 k).2.2.1 = some (tyJ9 k) := by decide +kernel
abbrev cJ9_max_7cf53 : ByteArray := prog_17_method_65_code
def yJ9_max_7cf53 : MethodName := ⟨RJ9, "max", "(II)I"⟩
abbrev cJ9_max_f86c9 : ByteArray := prog_17_method_66_code
def yJ9_max_f86c9 : MethodName := ⟨RJ9, "max", "(JJ)J"⟩
abbrev cJ9_min_7cf53 : ByteArray := prog_17_method_69_code
def yJ9_min_7cf53 : MethodName := ⟨RJ9, "min", "(II)I"⟩
abbrev cJ9_min_f86c9 : ByteArray := prog_17_method_70_code
def yJ9_min_f86c9 : MethodName := ⟨RJ9, "min", "(JJ)J"⟩
def RJ0 : String := "java/lang/String"
def TJ0 : u_T := fun k => match k with
  | _ => ("", "", "", false)
def tyJ0 : Nat → FieldType := fun k => match k with
  | _ => .int
theorem nmJ0 : ∀ a, a < 0 → ∀ b, b < 0 → a ≠ b → (TJ0 a).2.1 ≠ (TJ0 b).2.1 := by decide +kernel
theorem tyJ0_ok : ∀ k, k < 0 → parseFieldDescriptor (TJ0 k).2.2.1 = some (tyJ0 k) := by decide +kernel
abbrev cJ0_length_8abf5 : ByteArray := prog_18_method_54_code
def yJ0_length_8abf5 : MethodName := ⟨RJ0, "length", "()I"⟩
abbrev cJ0_charAt_5068e : ByteArray := prog_18_method_56_code
def yJ0_charAt_5068e : MethodName := ⟨RJ0, "charAt", "(I)C"⟩
abbrev cJ0_coder_7d493 : ByteArray := prog_18_method_152_code
def yJ0_coder_7d493 : MethodName := ⟨RJ0, "coder", "()B"⟩
abbrev cJ0_isLatin1_aae02 : ByteArray := prog_18_method_154_code
def yJ0_isLatin1_aae02 : MethodName := ⟨RJ0, "isLatin1", "()Z"⟩
abbrev cJ0_checkIndex_df160 : ByteArray := prog_18_method_155_code
def yJ0_checkIndex_df160 : MethodName := ⟨RJ0, "checkIndex", "(II)V"⟩
def RJ1 : String := "java/lang/StringLatin1"
def TJ1 : u_T := fun k => match k with
  | _ => ("", "", "", false)
def tyJ1 : Nat → FieldType := fun k => match k with
  | _ => .int
theorem nmJ1 : ∀ a, a < 0 → ∀ b, b < 0 → a ≠ b → (TJ1 a).2.1 ≠ (TJ1 b).2.1 := by decide +kernel
theorem tyJ1_ok : ∀ k, k < 0 → parseFieldDescriptor (TJ1 k).2.2.1 = some (tyJ1 k) := by decide +kernel
abbrev cJ1_charAt_3b067 : ByteArray := prog_19_method_2_code
def yJ1_charAt_3b067 : MethodName := ⟨RJ1, "charAt", "([BI)C"⟩
def RJ2 : String := "java/lang/StringUTF16"
def TJ2 : u_T := fun k => match k with
  | _ => ("", "", "", false)
def tyJ2 : Nat → FieldType := fun k => match k with
  | _ => .int
theorem nmJ2 : ∀ a, a < 0 → ∀ b, b < 0 → a ≠ b → (TJ2 a).2.1 ≠ (TJ2 b).2.1 := by decide +kernel
theorem tyJ2_ok : ∀ k, k < 0 → parseFieldDescriptor (TJ2 k).2.2.1 = some (tyJ2 k) := by decide +kernel
abbrev cJ2_getChar_3b067 : ByteArray := prog_20_method_5_code
def yJ2_getChar_3b067 : MethodName := ⟨RJ2, "getChar", "([BI)C"⟩
abbrev cJ2_length_9d52b : ByteArray := prog_20_method_6_code
def yJ2_length_9d52b : MethodName := ⟨RJ2, "length", "([B)I"⟩
abbrev cJ2_charAt_3b067 : ByteArray := prog_20_method_83_code
def yJ2_charAt_3b067 : MethodName := ⟨RJ2, "charAt", "([BI)C"⟩
abbrev cJ2_checkIndex_2214a : ByteArray := prog_20_method_91_code
def yJ2_checkIndex_2214a : MethodName := ⟨RJ2, "checkIndex", "(I[B)V"⟩
def RJ10 : String := "java/lang/System"
def TJ10 : u_T := fun k => match k with
  | _ => ("", "", "", false)
def tyJ10 : Nat → FieldType := fun k => match k with
  | _ => .int
theorem nmJ10 : ∀ a, a < 0 → ∀ b, b < 0 → a ≠ b → (TJ10 a).2.1 ≠ (TJ10 b).2.1 := by decide +kernel
theorem tyJ10_ok : ∀ k, k < 0 → parseFieldDescriptor (TJ10 k).2.2.1 = some (tyJ10 k) := by decide +kernel
def RJ7 : String := "java/util/Arrays"
def TJ7 : u_T := fun k => match k with
  | _ => ("", "", "", false)
def tyJ7 : Nat → FieldType := fun k => match k with
  | _ => .int
theorem nmJ7 : ∀ a, a < 0 → ∀ b, b < 0 → a ≠ b → (TJ7 a).2.1 ≠ (TJ7 b).2.1 := by decide +kernel
theorem tyJ7_ok : ∀ k, k < 0 → parseFieldDescriptor (TJ7 k).2.2.1 = some (tyJ7 k) := by decide +kernel
abbrev cJ7_fill_53178 : ByteArray := prog_22_method_103_code
def yJ7_fill_53178 : MethodName := ⟨RJ7, "fill", "([II)V"⟩
abbrev cJ7_copyOf_59c91 : ByteArray := prog_22_method_123_code
def yJ7_copyOf_59c91 : MethodName := ⟨RJ7, "copyOf", "([II)[I"⟩
def RJ3 : String := "jdk/internal/util/Preconditions"
def TJ3 : u_T := fun k => match k with
  | _ => ("", "", "", false)
def tyJ3 : Nat → FieldType := fun k => match k with
  | _ => .int
theorem nmJ3 : ∀ a, a < 0 → ∀ b, b < 0 → a ≠ b → (TJ3 a).2.1 ≠ (TJ3 b).2.1 := by decide +kernel
theorem tyJ3_ok : ∀ k, k < 0 → parseFieldDescriptor (TJ3 k).2.2.1 = some (tyJ3 k) := by decide +kernel
abbrev cJ3_checkIndex_8e157 : ByteArray := prog_23_method_11_code
def yJ3_checkIndex_8e157 : MethodName := ⟨RJ3, "checkIndex", "(IILjava/util/function/BiFunction;)I"⟩
def RL : String := "YoungerBenchLaw"
abbrev cL_law : ByteArray := code
def yL_law : MethodName := ⟨RL, "law", "([I)Z"⟩
def clsX : List vw_C := [(RX0, TX0, 10), (RX1, TX1, 4), (RX2, TX2, 3), (RX3, TX3, 5), (RX4, TX4, 17), (RX5, TX5, 1), (RX6, TX6, 4), (RX7, TX7, 8), (RX8, TX8, 8), (RX9, TX9, 15), (RX10, TX10, 5), (RX11, TX11, 16), (RX12, TX12, 48)]
theorem inX0 : ∀ w ∈ u_ws RX0 TX0 10, w ∈ lw_tbl := by decide +kernel
theorem inX1 : ∀ w ∈ u_ws RX1 TX1 4, w ∈ lw_tbl := by decide +kernel
theorem inX2 : ∀ w ∈ u_ws RX2 TX2 3, w ∈ lw_tbl := by decide +kernel
theorem inX3 : ∀ w ∈ u_ws RX3 TX3 5, w ∈ lw_tbl := by decide +kernel
theorem inX4 : ∀ w ∈ u_ws RX4 TX4 17, w ∈ lw_tbl := by decide +kernel
theorem inX5 : ∀ w ∈ u_ws RX5 TX5 1, w ∈ lw_tbl := by decide +kernel
theorem inX6 : ∀ w ∈ u_ws RX6 TX6 4, w ∈ lw_tbl := by decide +kernel
theorem inX7 : ∀ w ∈ u_ws RX7 TX7 8, w ∈ lw_tbl := by decide +kernel
theorem inX8 : ∀ w ∈ u_ws RX8 TX8 8, w ∈ lw_tbl := by decide +kernel
theorem inX9 : ∀ w ∈ u_ws RX9 TX9 15, w ∈ lw_tbl := by decide +kernel
theorem inX10 : ∀ w ∈ u_ws RX10 TX10 5, w ∈ lw_tbl := by decide +kernel
theorem inX11 : ∀ w ∈ u_ws RX11 TX11 16, w ∈ lw_tbl := by decide +kernel
theorem inX12 : ∀ w ∈ u_ws RX12 TX12 48, w ∈ lw_tbl := by decide +kernel

-- ===== PART A: goes FIRST, ahead of the names: the tables' words, and 'selects' of the private methods out of them =====
/-- a private method of a class that the tables say can be made, by its rows of tables_1 -/
def lw_okq (q : MethodName × Nat) : Prop := (q.1.cls ≠ "java/lang/invoke/MethodHandle" ∧ q.1.cls ≠ "java/lang/invoke/VarHandle") ∧ Cond.instantiable q.1.cls q.2 ∈ tables_1 ∧ Cond.privateMethod q.1 ∈ tables_1 ∧ Cond.instanceMethod q.1 ∈ tables_1
theorem lw_p0 : lw_okq (⟨"PutBack$Reader", "readClause", "()Z"⟩, 4) := ⟨⟨by decide +kernel, by decide +kernel⟩, List.mem_of_getElem? (i := 260) (by decide +kernel), List.mem_of_getElem? (i := 350) (by decide +kernel), List.mem_of_getElem? (i := 351) (by decide +kernel)⟩
theorem lw_p1 : lw_okq (⟨"PutBack$Reader", "peek", "()I"⟩, 4) := ⟨⟨by decide +kernel, by decide +kernel⟩, List.mem_of_getElem? (i := 260) (by decide +kernel), List.mem_of_getElem? (i := 354) (by decide +kernel), List.mem_of_getElem? (i := 355) (by decide +kernel)⟩
theorem lw_p2 : lw_okq (⟨"PutBack$Reader", "readName", "(Ljava/lang/String;)Z"⟩, 4) := ⟨⟨by decide +kernel, by decide +kernel⟩, List.mem_of_getElem? (i := 260) (by decide +kernel), List.mem_of_getElem? (i := 365) (by decide +kernel), List.mem_of_getElem? (i := 366) (by decide +kernel)⟩
theorem lw_p3 : lw_okq (⟨"PutBack$Reader", "readSign", "(I)Z"⟩, 4) := ⟨⟨by decide +kernel, by decide +kernel⟩, List.mem_of_getElem? (i := 260) (by decide +kernel), List.mem_of_getElem? (i := 417) (by decide +kernel), List.mem_of_getElem? (i := 418) (by decide +kernel)⟩
theorem lw_p4 : lw_okq (⟨"PutBack$Reader", "readNumber", "()I"⟩, 4) := ⟨⟨by decide +kernel, by decide +kernel⟩, List.mem_of_getElem? (i := 260) (by decide +kernel), List.mem_of_getElem? (i := 421) (by decide +kernel), List.mem_of_getElem? (i := 422) (by decide +kernel)⟩
theorem lw_p5 : lw_okq (⟨"PutBack$Reader", "readEither", "(I)Z"⟩, 4) := ⟨⟨by decide +kernel, by decide +kernel⟩, List.mem_of_getElem? (i := 260) (by decide +kernel), List.mem_of_getElem? (i := 425) (by decide +kernel), List.mem_of_getElem? (i := 426) (by decide +kernel)⟩
theorem lw_p6 : lw_okq (⟨"PutBack$Reader", "readFactor", "(I)Z"⟩, 4) := ⟨⟨by decide +kernel, by decide +kernel⟩, List.mem_of_getElem? (i := 260) (by decide +kernel), List.mem_of_getElem? (i := 429) (by decide +kernel), List.mem_of_getElem? (i := 430) (by decide +kernel)⟩
theorem lw_p7 : lw_okq (⟨"PutBack$Reader", "readTest", "()Z"⟩, 4) := ⟨⟨by decide +kernel, by decide +kernel⟩, List.mem_of_getElem? (i := 260) (by decide +kernel), List.mem_of_getElem? (i := 433) (by decide +kernel), List.mem_of_getElem? (i := 434) (by decide +kernel)⟩
theorem lw_p8 : lw_okq (⟨"PutBack$Reader", "readOneOf", "(Ljava/lang/String;)I"⟩, 4) := ⟨⟨by decide +kernel, by decide +kernel⟩, List.mem_of_getElem? (i := 260) (by decide +kernel), List.mem_of_getElem? (i := 438) (by decide +kernel), List.mem_of_getElem? (i := 439) (by decide +kernel)⟩
theorem lw_p9 : lw_okq (⟨"PutBack$Maker", "kindOf", "(I)I"⟩, 8) := ⟨⟨by decide +kernel, by decide +kernel⟩, List.mem_of_getElem? (i := 28) (by decide +kernel), List.mem_of_getElem? (i := 595) (by decide +kernel), List.mem_of_getElem? (i := 596) (by decide +kernel)⟩
theorem lw_p10 : lw_okq (⟨"PutBack$Maker", "spread", "(I)V"⟩, 8) := ⟨⟨by decide +kernel, by decide +kernel⟩, List.mem_of_getElem? (i := 28) (by decide +kernel), List.mem_of_getElem? (i := 604) (by decide +kernel), List.mem_of_getElem? (i := 605) (by decide +kernel)⟩
theorem lw_p11 : lw_okq (⟨"PutBack$Maker", "spreadCost", "(II)I"⟩, 8) := ⟨⟨by decide +kernel, by decide +kernel⟩, List.mem_of_getElem? (i := 28) (by decide +kernel), List.mem_of_getElem? (i := 609) (by decide +kernel), List.mem_of_getElem? (i := 610) (by decide +kernel)⟩
theorem lw_p12 : lw_okq (⟨"PutBack$Maker", "spreadFar", "(II)I"⟩, 8) := ⟨⟨by decide +kernel, by decide +kernel⟩, List.mem_of_getElem? (i := 28) (by decide +kernel), List.mem_of_getElem? (i := 614) (by decide +kernel), List.mem_of_getElem? (i := 615) (by decide +kernel)⟩
theorem lw_p13 : lw_okq (⟨"PutBack$Maker", "isBeginning", "(I)Z"⟩, 8) := ⟨⟨by decide +kernel, by decide +kernel⟩, List.mem_of_getElem? (i := 28) (by decide +kernel), List.mem_of_getElem? (i := 618) (by decide +kernel), List.mem_of_getElem? (i := 619) (by decide +kernel)⟩
theorem lw_p14 : lw_okq (⟨"PutBack$Maker", "leastSum", "(II)I"⟩, 8) := ⟨⟨by decide +kernel, by decide +kernel⟩, List.mem_of_getElem? (i := 28) (by decide +kernel), List.mem_of_getElem? (i := 623) (by decide +kernel), List.mem_of_getElem? (i := 624) (by decide +kernel)⟩
theorem lw_p15 : lw_okq (⟨"PutBack$Maker", "factsOf", "(II)[I"⟩, 8) := ⟨⟨by decide +kernel, by decide +kernel⟩, List.mem_of_getElem? (i := 28) (by decide +kernel), List.mem_of_getElem? (i := 630) (by decide +kernel), List.mem_of_getElem? (i := 631) (by decide +kernel)⟩
def lw_privs_1 : List (MethodName × Nat) := [(⟨"PutBack$Reader", "readClause", "()Z"⟩, 4), (⟨"PutBack$Reader", "peek", "()I"⟩, 4), (⟨"PutBack$Reader", "readName", "(Ljava/lang/String;)Z"⟩, 4), (⟨"PutBack$Reader", "readSign", "(I)Z"⟩, 4), (⟨"PutBack$Reader", "readNumber", "()I"⟩, 4), (⟨"PutBack$Reader", "readEither", "(I)Z"⟩, 4), (⟨"PutBack$Reader", "readFactor", "(I)Z"⟩, 4), (⟨"PutBack$Reader", "readTest", "()Z"⟩, 4), (⟨"PutBack$Reader", "readOneOf", "(Ljava/lang/String;)I"⟩, 4), (⟨"PutBack$Maker", "kindOf", "(I)I"⟩, 8), (⟨"PutBack$Maker", "spread", "(I)V"⟩, 8), (⟨"PutBack$Maker", "spreadCost", "(II)I"⟩, 8), (⟨"PutBack$Maker", "spreadFar", "(II)I"⟩, 8), (⟨"PutBack$Maker", "isBeginning", "(I)Z"⟩, 8), (⟨"PutBack$Maker", "leastSum", "(II)I"⟩, 8), (⟨"PutBack$Maker", "factsOf", "(II)[I"⟩, 8)]
theorem lw_r1 : ∀ q ∈ lw_privs_1, lw_okq q := List.forall_mem_cons.mpr ⟨lw_p0, List.forall_mem_cons.mpr ⟨lw_p1, List.forall_mem_cons.mpr ⟨lw_p2, List.forall_mem_cons.mpr ⟨lw_p3, List.forall_mem_cons.mpr ⟨lw_p4, List.forall_mem_cons.mpr ⟨lw_p5, List.forall_mem_cons.mpr ⟨lw_p6, List.forall_mem_cons.mpr ⟨lw_p7, List.forall_mem_cons.mpr ⟨lw_p8, List.forall_mem_cons.mpr ⟨lw_p9, List.forall_mem_cons.mpr ⟨lw_p10, List.forall_mem_cons.mpr ⟨lw_p11, List.forall_mem_cons.mpr ⟨lw_p12, List.forall_mem_cons.mpr ⟨lw_p13, List.forall_mem_cons.mpr ⟨lw_p14, List.forall_mem_cons.mpr ⟨lw_p15, fun _ h => absurd h List.not_mem_nil⟩⟩⟩⟩⟩⟩⟩⟩⟩⟩⟩⟩⟩⟩⟩⟩
theorem lw_p16 : lw_okq (⟨"PutBack$Phone", "holds", "(II[I)Z"⟩, 7) := ⟨⟨by decide +kernel, by decide +kernel⟩, List.mem_of_getElem? (i := 135) (by decide +kernel), List.mem_of_getElem? (i := 641) (by decide +kernel), List.mem_of_getElem? (i := 642) (by decide +kernel)⟩
theorem lw_p17 : lw_okq (⟨"PutBack", "refusalOf", "(II)I"⟩, 8) := ⟨⟨by decide +kernel, by decide +kernel⟩, List.mem_of_getElem? (i := 20) (by decide +kernel), List.mem_of_getElem? (i := 679) (by decide +kernel), List.mem_of_getElem? (i := 680) (by decide +kernel)⟩
theorem lw_p18 : lw_okq (⟨"PutBack", "staysOne", "(II)Z"⟩, 8) := ⟨⟨by decide +kernel, by decide +kernel⟩, List.mem_of_getElem? (i := 20) (by decide +kernel), List.mem_of_getElem? (i := 701) (by decide +kernel), List.mem_of_getElem? (i := 702) (by decide +kernel)⟩
theorem lw_p19 : lw_okq (⟨"PutBack", "wayTo", "(II)I"⟩, 8) := ⟨⟨by decide +kernel, by decide +kernel⟩, List.mem_of_getElem? (i := 20) (by decide +kernel), List.mem_of_getElem? (i := 709) (by decide +kernel), List.mem_of_getElem? (i := 710) (by decide +kernel)⟩
theorem lw_p20 : lw_okq (⟨"PutBack", "shortWays", "(I)I"⟩, 8) := ⟨⟨by decide +kernel, by decide +kernel⟩, List.mem_of_getElem? (i := 20) (by decide +kernel), List.mem_of_getElem? (i := 717) (by decide +kernel), List.mem_of_getElem? (i := 718) (by decide +kernel)⟩
theorem lw_p21 : lw_okq (⟨"PutBack", "runChain", "(II)I"⟩, 8) := ⟨⟨by decide +kernel, by decide +kernel⟩, List.mem_of_getElem? (i := 20) (by decide +kernel), List.mem_of_getElem? (i := 785) (by decide +kernel), List.mem_of_getElem? (i := 786) (by decide +kernel)⟩
theorem lw_p22 : lw_okq (⟨"PutBack", "waysFrom", "(III)I"⟩, 8) := ⟨⟨by decide +kernel, by decide +kernel⟩, List.mem_of_getElem? (i := 20) (by decide +kernel), List.mem_of_getElem? (i := 796) (by decide +kernel), List.mem_of_getElem? (i := 797) (by decide +kernel)⟩
theorem lw_p23 : lw_okq (⟨"PutBack$Acts", "run", "(IIII)I"⟩, 5) := ⟨⟨by decide +kernel, by decide +kernel⟩, List.mem_of_getElem? (i := 282) (by decide +kernel), List.mem_of_getElem? (i := 849) (by decide +kernel), List.mem_of_getElem? (i := 850) (by decide +kernel)⟩
theorem lw_p24 : lw_okq (⟨"PutBack$Acts", "begin", "(I)V"⟩, 5) := ⟨⟨by decide +kernel, by decide +kernel⟩, List.mem_of_getElem? (i := 282) (by decide +kernel), List.mem_of_getElem? (i := 860) (by decide +kernel), List.mem_of_getElem? (i := 861) (by decide +kernel)⟩
theorem lw_p25 : lw_okq (⟨"PutBackModel", "clauseHere", "()V"⟩, 31) := ⟨⟨by decide +kernel, by decide +kernel⟩, List.mem_of_getElem? (i := 914) (by decide +kernel), List.mem_of_getElem? (i := 1025) (by decide +kernel), List.mem_of_getElem? (i := 1026) (by decide +kernel)⟩
theorem lw_p26 : lw_okq (⟨"PutBackModel", "here", "()I"⟩, 31) := ⟨⟨by decide +kernel, by decide +kernel⟩, List.mem_of_getElem? (i := 914) (by decide +kernel), List.mem_of_getElem? (i := 1029) (by decide +kernel), List.mem_of_getElem? (i := 1030) (by decide +kernel)⟩
theorem lw_p27 : lw_okq (⟨"PutBackModel", "tellsHere", "(ILjava/lang/String;)V"⟩, 31) := ⟨⟨by decide +kernel, by decide +kernel⟩, List.mem_of_getElem? (i := 914) (by decide +kernel), List.mem_of_getElem? (i := 1034) (by decide +kernel), List.mem_of_getElem? (i := 1035) (by decide +kernel)⟩
theorem lw_p28 : lw_okq (⟨"PutBackModel", "spells", "(Ljava/lang/String;)V"⟩, 31) := ⟨⟨by decide +kernel, by decide +kernel⟩, List.mem_of_getElem? (i := 914) (by decide +kernel), List.mem_of_getElem? (i := 1038) (by decide +kernel), List.mem_of_getElem? (i := 1039) (by decide +kernel)⟩
theorem lw_p29 : lw_okq (⟨"PutBackModel", "must", "(I)V"⟩, 31) := ⟨⟨by decide +kernel, by decide +kernel⟩, List.mem_of_getElem? (i := 914) (by decide +kernel), List.mem_of_getElem? (i := 1044) (by decide +kernel), List.mem_of_getElem? (i := 1045) (by decide +kernel)⟩
theorem lw_p30 : lw_okq (⟨"PutBackModel", "figures", "()I"⟩, 31) := ⟨⟨by decide +kernel, by decide +kernel⟩, List.mem_of_getElem? (i := 914) (by decide +kernel), List.mem_of_getElem? (i := 1048) (by decide +kernel), List.mem_of_getElem? (i := 1049) (by decide +kernel)⟩
theorem lw_p31 : lw_okq (⟨"PutBackModel", "much", "(ILjava/lang/String;)V"⟩, 31) := ⟨⟨by decide +kernel, by decide +kernel⟩, List.mem_of_getElem? (i := 914) (by decide +kernel), List.mem_of_getElem? (i := 1054) (by decide +kernel), List.mem_of_getElem? (i := 1055) (by decide +kernel)⟩
def lw_privs_2 : List (MethodName × Nat) := [(⟨"PutBack$Phone", "holds", "(II[I)Z"⟩, 7), (⟨"PutBack", "refusalOf", "(II)I"⟩, 8), (⟨"PutBack", "staysOne", "(II)Z"⟩, 8), (⟨"PutBack", "wayTo", "(II)I"⟩, 8), (⟨"PutBack", "shortWays", "(I)I"⟩, 8), (⟨"PutBack", "runChain", "(II)I"⟩, 8), (⟨"PutBack", "waysFrom", "(III)I"⟩, 8), (⟨"PutBack$Acts", "run", "(IIII)I"⟩, 5), (⟨"PutBack$Acts", "begin", "(I)V"⟩, 5), (⟨"PutBackModel", "clauseHere", "()V"⟩, 31), (⟨"PutBackModel", "here", "()I"⟩, 31), (⟨"PutBackModel", "tellsHere", "(ILjava/lang/String;)V"⟩, 31), (⟨"PutBackModel", "spells", "(Ljava/lang/String;)V"⟩, 31), (⟨"PutBackModel", "must", "(I)V"⟩, 31), (⟨"PutBackModel", "figures", "()I"⟩, 31), (⟨"PutBackModel", "much", "(ILjava/lang/String;)V"⟩, 31)]
theorem lw_r2 : ∀ q ∈ lw_privs_2, lw_okq q := List.forall_mem_cons.mpr ⟨lw_p16, List.forall_mem_cons.mpr ⟨lw_p17, List.forall_mem_cons.mpr ⟨lw_p18, List.forall_mem_cons.mpr ⟨lw_p19, List.forall_mem_cons.mpr ⟨lw_p20, List.forall_mem_cons.mpr ⟨lw_p21, List.forall_mem_cons.mpr ⟨lw_p22, List.forall_mem_cons.mpr ⟨lw_p23, List.forall_mem_cons.mpr ⟨lw_p24, List.forall_mem_cons.mpr ⟨lw_p25, List.forall_mem_cons.mpr ⟨lw_p26, List.forall_mem_cons.mpr ⟨lw_p27, List.forall_mem_cons.mpr ⟨lw_p28, List.forall_mem_cons.mpr ⟨lw_p29, List.forall_mem_cons.mpr ⟨lw_p30, List.forall_mem_cons.mpr ⟨lw_p31, fun _ h => absurd h List.not_mem_nil⟩⟩⟩⟩⟩⟩⟩⟩⟩⟩⟩⟩⟩⟩⟩⟩
theorem lw_p32 : lw_okq (⟨"PutBackModel", "some", "()V"⟩, 31) := ⟨⟨by decide +kernel, by decide +kernel⟩, List.mem_of_getElem? (i := 914) (by decide +kernel), List.mem_of_getElem? (i := 1058) (by decide +kernel), List.mem_of_getElem? (i := 1059) (by decide +kernel)⟩
theorem lw_p33 : lw_okq (⟨"PutBackModel", "every", "()V"⟩, 31) := ⟨⟨by decide +kernel, by decide +kernel⟩, List.mem_of_getElem? (i := 914) (by decide +kernel), List.mem_of_getElem? (i := 1062) (by decide +kernel), List.mem_of_getElem? (i := 1063) (by decide +kernel)⟩
theorem lw_p34 : lw_okq (⟨"PutBackModel", "factor", "()V"⟩, 31) := ⟨⟨by decide +kernel, by decide +kernel⟩, List.mem_of_getElem? (i := 914) (by decide +kernel), List.mem_of_getElem? (i := 1066) (by decide +kernel), List.mem_of_getElem? (i := 1067) (by decide +kernel)⟩
theorem lw_p35 : lw_okq (⟨"PutBackModel", "emits", "(I)V"⟩, 31) := ⟨⟨by decide +kernel, by decide +kernel⟩, List.mem_of_getElem? (i := 914) (by decide +kernel), List.mem_of_getElem? (i := 1070) (by decide +kernel), List.mem_of_getElem? (i := 1071) (by decide +kernel)⟩
theorem lw_p36 : lw_okq (⟨"PutBackModel", "among", "(Ljava/lang/String;)I"⟩, 31) := ⟨⟨by decide +kernel, by decide +kernel⟩, List.mem_of_getElem? (i := 914) (by decide +kernel), List.mem_of_getElem? (i := 1075) (by decide +kernel), List.mem_of_getElem? (i := 1076) (by decide +kernel)⟩
theorem lw_p37 : lw_okq (⟨"PutBackModel", "indexOf", "(I)I"⟩, 31) := ⟨⟨by decide +kernel, by decide +kernel⟩, List.mem_of_getElem? (i := 914) (by decide +kernel), List.mem_of_getElem? (i := 1089) (by decide +kernel), List.mem_of_getElem? (i := 1090) (by decide +kernel)⟩
theorem lw_p38 : lw_okq (⟨"PutBackModel", "isListed", "(I)Z"⟩, 31) := ⟨⟨by decide +kernel, by decide +kernel⟩, List.mem_of_getElem? (i := 914) (by decide +kernel), List.mem_of_getElem? (i := 1097) (by decide +kernel), List.mem_of_getElem? (i := 1098) (by decide +kernel)⟩
theorem lw_p39 : lw_okq (⟨"PutBackModel", "isMender", "(I)Z"⟩, 31) := ⟨⟨by decide +kernel, by decide +kernel⟩, List.mem_of_getElem? (i := 914) (by decide +kernel), List.mem_of_getElem? (i := 1117) (by decide +kernel), List.mem_of_getElem? (i := 1118) (by decide +kernel)⟩
theorem lw_p40 : lw_okq (⟨"PutBackModel", "types", "(II)I"⟩, 31) := ⟨⟨by decide +kernel, by decide +kernel⟩, List.mem_of_getElem? (i := 914) (by decide +kernel), List.mem_of_getElem? (i := 1129) (by decide +kernel), List.mem_of_getElem? (i := 1130) (by decide +kernel)⟩
theorem lw_p41 : lw_okq (⟨"PutBackModel", "makesOf", "(II)I"⟩, 31) := ⟨⟨by decide +kernel, by decide +kernel⟩, List.mem_of_getElem? (i := 914) (by decide +kernel), List.mem_of_getElem? (i := 1133) (by decide +kernel), List.mem_of_getElem? (i := 1134) (by decide +kernel)⟩
theorem lw_p42 : lw_okq (⟨"PutBackModel", "looksFor", "(II)V"⟩, 31) := ⟨⟨by decide +kernel, by decide +kernel⟩, List.mem_of_getElem? (i := 914) (by decide +kernel), List.mem_of_getElem? (i := 1140) (by decide +kernel), List.mem_of_getElem? (i := 1141) (by decide +kernel)⟩
theorem lw_p43 : lw_okq (⟨"PutBackModel", "looks", "(III)I"⟩, 31) := ⟨⟨by decide +kernel, by decide +kernel⟩, List.mem_of_getElem? (i := 914) (by decide +kernel), List.mem_of_getElem? (i := 1144) (by decide +kernel), List.mem_of_getElem? (i := 1145) (by decide +kernel)⟩
theorem lw_p44 : lw_okq (⟨"PutBackModel", "tellsOf", "(II)I"⟩, 31) := ⟨⟨by decide +kernel, by decide +kernel⟩, List.mem_of_getElem? (i := 914) (by decide +kernel), List.mem_of_getElem? (i := 1148) (by decide +kernel), List.mem_of_getElem? (i := 1149) (by decide +kernel)⟩
theorem lw_p45 : lw_okq (⟨"PutBackModel", "madeOf", "(II)I"⟩, 31) := ⟨⟨by decide +kernel, by decide +kernel⟩, List.mem_of_getElem? (i := 914) (by decide +kernel), List.mem_of_getElem? (i := 1152) (by decide +kernel), List.mem_of_getElem? (i := 1153) (by decide +kernel)⟩
theorem lw_p46 : lw_okq (⟨"PutBackModel", "isLeft", "(I)Z"⟩, 31) := ⟨⟨by decide +kernel, by decide +kernel⟩, List.mem_of_getElem? (i := 914) (by decide +kernel), List.mem_of_getElem? (i := 1156) (by decide +kernel), List.mem_of_getElem? (i := 1157) (by decide +kernel)⟩
theorem lw_p47 : lw_okq (⟨"PutBackModel", "costOf", "(III)I"⟩, 31) := ⟨⟨by decide +kernel, by decide +kernel⟩, List.mem_of_getElem? (i := 914) (by decide +kernel), List.mem_of_getElem? (i := 1161) (by decide +kernel), List.mem_of_getElem? (i := 1162) (by decide +kernel)⟩
def lw_privs_3 : List (MethodName × Nat) := [(⟨"PutBackModel", "some", "()V"⟩, 31), (⟨"PutBackModel", "every", "()V"⟩, 31), (⟨"PutBackModel", "factor", "()V"⟩, 31), (⟨"PutBackModel", "emits", "(I)V"⟩, 31), (⟨"PutBackModel", "among", "(Ljava/lang/String;)I"⟩, 31), (⟨"PutBackModel", "indexOf", "(I)I"⟩, 31), (⟨"PutBackModel", "isListed", "(I)Z"⟩, 31), (⟨"PutBackModel", "isMender", "(I)Z"⟩, 31), (⟨"PutBackModel", "types", "(II)I"⟩, 31), (⟨"PutBackModel", "makesOf", "(II)I"⟩, 31), (⟨"PutBackModel", "looksFor", "(II)V"⟩, 31), (⟨"PutBackModel", "looks", "(III)I"⟩, 31), (⟨"PutBackModel", "tellsOf", "(II)I"⟩, 31), (⟨"PutBackModel", "madeOf", "(II)I"⟩, 31), (⟨"PutBackModel", "isLeft", "(I)Z"⟩, 31), (⟨"PutBackModel", "costOf", "(III)I"⟩, 31)]
theorem lw_r3 : ∀ q ∈ lw_privs_3, lw_okq q := List.forall_mem_cons.mpr ⟨lw_p32, List.forall_mem_cons.mpr ⟨lw_p33, List.forall_mem_cons.mpr ⟨lw_p34, List.forall_mem_cons.mpr ⟨lw_p35, List.forall_mem_cons.mpr ⟨lw_p36, List.forall_mem_cons.mpr ⟨lw_p37, List.forall_mem_cons.mpr ⟨lw_p38, List.forall_mem_cons.mpr ⟨lw_p39, List.forall_mem_cons.mpr ⟨lw_p40, List.forall_mem_cons.mpr ⟨lw_p41, List.forall_mem_cons.mpr ⟨lw_p42, List.forall_mem_cons.mpr ⟨lw_p43, List.forall_mem_cons.mpr ⟨lw_p44, List.forall_mem_cons.mpr ⟨lw_p45, List.forall_mem_cons.mpr ⟨lw_p46, List.forall_mem_cons.mpr ⟨lw_p47, fun _ h => absurd h List.not_mem_nil⟩⟩⟩⟩⟩⟩⟩⟩⟩⟩⟩⟩⟩⟩⟩⟩
theorem lw_p48 : lw_okq (⟨"PutBackModel", "farOf", "(III)I"⟩, 31) := ⟨⟨by decide +kernel, by decide +kernel⟩, List.mem_of_getElem? (i := 914) (by decide +kernel), List.mem_of_getElem? (i := 1165) (by decide +kernel), List.mem_of_getElem? (i := 1166) (by decide +kernel)⟩
theorem lw_p49 : lw_okq (⟨"PutBackModel", "changes", "(IIZ)I"⟩, 31) := ⟨⟨by decide +kernel, by decide +kernel⟩, List.mem_of_getElem? (i := 914) (by decide +kernel), List.mem_of_getElem? (i := 1172) (by decide +kernel), List.mem_of_getElem? (i := 1173) (by decide +kernel)⟩
theorem lw_p50 : lw_okq (⟨"PutBackModel", "staysOf", "(I)I"⟩, 31) := ⟨⟨by decide +kernel, by decide +kernel⟩, List.mem_of_getElem? (i := 914) (by decide +kernel), List.mem_of_getElem? (i := 1209) (by decide +kernel), List.mem_of_getElem? (i := 1210) (by decide +kernel)⟩
theorem lw_p51 : lw_okq (⟨"PutBackModel", "looksForShort", "(I)V"⟩, 31) := ⟨⟨by decide +kernel, by decide +kernel⟩, List.mem_of_getElem? (i := 914) (by decide +kernel), List.mem_of_getElem? (i := 1217) (by decide +kernel), List.mem_of_getElem? (i := 1218) (by decide +kernel)⟩
theorem lw_p52 : lw_okq (⟨"PutBackModel", "looksForTouches", "(II)V"⟩, 31) := ⟨⟨by decide +kernel, by decide +kernel⟩, List.mem_of_getElem? (i := 914) (by decide +kernel), List.mem_of_getElem? (i := 1221) (by decide +kernel), List.mem_of_getElem? (i := 1222) (by decide +kernel)⟩
theorem lw_p53 : lw_okq (⟨"PutBackModel", "keeps", "()V"⟩, 31) := ⟨⟨by decide +kernel, by decide +kernel⟩, List.mem_of_getElem? (i := 914) (by decide +kernel), List.mem_of_getElem? (i := 1237) (by decide +kernel), List.mem_of_getElem? (i := 1238) (by decide +kernel)⟩
theorem lw_p54 : lw_okq (⟨"PutBackModel", "goesBack", "()V"⟩, 31) := ⟨⟨by decide +kernel, by decide +kernel⟩, List.mem_of_getElem? (i := 914) (by decide +kernel), List.mem_of_getElem? (i := 1241) (by decide +kernel), List.mem_of_getElem? (i := 1242) (by decide +kernel)⟩
theorem lw_p55 : lw_okq (⟨"PutBackModel", "begins", "(II)Z"⟩, 31) := ⟨⟨by decide +kernel, by decide +kernel⟩, List.mem_of_getElem? (i := 914) (by decide +kernel), List.mem_of_getElem? (i := 1249) (by decide +kernel), List.mem_of_getElem? (i := 1250) (by decide +kernel)⟩
theorem lw_p56 : lw_okq (⟨"PutBackModel", "aheadOf", "(II)I"⟩, 31) := ⟨⟨by decide +kernel, by decide +kernel⟩, List.mem_of_getElem? (i := 914) (by decide +kernel), List.mem_of_getElem? (i := 1253) (by decide +kernel), List.mem_of_getElem? (i := 1254) (by decide +kernel)⟩
theorem lw_p57 : lw_okq (⟨"PutBackModel", "slipsFrom", "(III)V"⟩, 31) := ⟨⟨by decide +kernel, by decide +kernel⟩, List.mem_of_getElem? (i := 914) (by decide +kernel), List.mem_of_getElem? (i := 1270) (by decide +kernel), List.mem_of_getElem? (i := 1271) (by decide +kernel)⟩
theorem lw_p58 : lw_okq (⟨"PutBackModel", "goesRound", "(I)Z"⟩, 31) := ⟨⟨by decide +kernel, by decide +kernel⟩, List.mem_of_getElem? (i := 914) (by decide +kernel), List.mem_of_getElem? (i := 1288) (by decide +kernel), List.mem_of_getElem? (i := 1289) (by decide +kernel)⟩
theorem lw_p59 : lw_okq (⟨"PutBackModel", "unlike", "()I"⟩, 31) := ⟨⟨by decide +kernel, by decide +kernel⟩, List.mem_of_getElem? (i := 914) (by decide +kernel), List.mem_of_getElem? (i := 1292) (by decide +kernel), List.mem_of_getElem? (i := 1293) (by decide +kernel)⟩
theorem lw_p60 : lw_okq (⟨"PutBackModel", "waysOf", "(III)I"⟩, 31) := ⟨⟨by decide +kernel, by decide +kernel⟩, List.mem_of_getElem? (i := 914) (by decide +kernel), List.mem_of_getElem? (i := 1300) (by decide +kernel), List.mem_of_getElem? (i := 1301) (by decide +kernel)⟩
theorem lw_p61 : lw_okq (⟨"PutBackModel", "mendsActs", "(I)I"⟩, 31) := ⟨⟨by decide +kernel, by decide +kernel⟩, List.mem_of_getElem? (i := 914) (by decide +kernel), List.mem_of_getElem? (i := 1336) (by decide +kernel), List.mem_of_getElem? (i := 1337) (by decide +kernel)⟩
theorem lw_p62 : lw_okq (⟨"PutBackModel", "ranBody", "(I)V"⟩, 31) := ⟨⟨by decide +kernel, by decide +kernel⟩, List.mem_of_getElem? (i := 914) (by decide +kernel), List.mem_of_getElem? (i := 1343) (by decide +kernel), List.mem_of_getElem? (i := 1344) (by decide +kernel)⟩
theorem lw_p63 : lw_okq (⟨"PutBackModel", "plainMends", "(I)I"⟩, 31) := ⟨⟨by decide +kernel, by decide +kernel⟩, List.mem_of_getElem? (i := 914) (by decide +kernel), List.mem_of_getElem? (i := 1347) (by decide +kernel), List.mem_of_getElem? (i := 1348) (by decide +kernel)⟩
def lw_privs_4 : List (MethodName × Nat) := [(⟨"PutBackModel", "farOf", "(III)I"⟩, 31), (⟨"PutBackModel", "changes", "(IIZ)I"⟩, 31), (⟨"PutBackModel", "staysOf", "(I)I"⟩, 31), (⟨"PutBackModel", "looksForShort", "(I)V"⟩, 31), (⟨"PutBackModel", "looksForTouches", "(II)V"⟩, 31), (⟨"PutBackModel", "keeps", "()V"⟩, 31), (⟨"PutBackModel", "goesBack", "()V"⟩, 31), (⟨"PutBackModel", "begins", "(II)Z"⟩, 31), (⟨"PutBackModel", "aheadOf", "(II)I"⟩, 31), (⟨"PutBackModel", "slipsFrom", "(III)V"⟩, 31), (⟨"PutBackModel", "goesRound", "(I)Z"⟩, 31), (⟨"PutBackModel", "unlike", "()I"⟩, 31), (⟨"PutBackModel", "waysOf", "(III)I"⟩, 31), (⟨"PutBackModel", "mendsActs", "(I)I"⟩, 31), (⟨"PutBackModel", "ranBody", "(I)V"⟩, 31), (⟨"PutBackModel", "plainMends", "(I)I"⟩, 31)]
theorem lw_r4 : ∀ q ∈ lw_privs_4, lw_okq q := List.forall_mem_cons.mpr ⟨lw_p48, List.forall_mem_cons.mpr ⟨lw_p49, List.forall_mem_cons.mpr ⟨lw_p50, List.forall_mem_cons.mpr ⟨lw_p51, List.forall_mem_cons.mpr ⟨lw_p52, List.forall_mem_cons.mpr ⟨lw_p53, List.forall_mem_cons.mpr ⟨lw_p54, List.forall_mem_cons.mpr ⟨lw_p55, List.forall_mem_cons.mpr ⟨lw_p56, List.forall_mem_cons.mpr ⟨lw_p57, List.forall_mem_cons.mpr ⟨lw_p58, List.forall_mem_cons.mpr ⟨lw_p59, List.forall_mem_cons.mpr ⟨lw_p60, List.forall_mem_cons.mpr ⟨lw_p61, List.forall_mem_cons.mpr ⟨lw_p62, List.forall_mem_cons.mpr ⟨lw_p63, fun _ h => absurd h List.not_mem_nil⟩⟩⟩⟩⟩⟩⟩⟩⟩⟩⟩⟩⟩⟩⟩⟩
theorem lw_p64 : lw_okq (⟨"PutBackModel", "leavesActs", "(I)I"⟩, 31) := ⟨⟨by decide +kernel, by decide +kernel⟩, List.mem_of_getElem? (i := 914) (by decide +kernel), List.mem_of_getElem? (i := 1351) (by decide +kernel), List.mem_of_getElem? (i := 1352) (by decide +kernel)⟩
theorem lw_p65 : lw_okq (⟨"PutBackModel", "plainLeaves", "(I)I"⟩, 31) := ⟨⟨by decide +kernel, by decide +kernel⟩, List.mem_of_getElem? (i := 914) (by decide +kernel), List.mem_of_getElem? (i := 1355) (by decide +kernel), List.mem_of_getElem? (i := 1356) (by decide +kernel)⟩
theorem lw_p66 : lw_okq (⟨"PutBackModel", "tellsActs", "(I)I"⟩, 31) := ⟨⟨by decide +kernel, by decide +kernel⟩, List.mem_of_getElem? (i := 914) (by decide +kernel), List.mem_of_getElem? (i := 1359) (by decide +kernel), List.mem_of_getElem? (i := 1360) (by decide +kernel)⟩
theorem lw_p67 : lw_okq (⟨"PutBackModel", "plainTells", "(I)I"⟩, 31) := ⟨⟨by decide +kernel, by decide +kernel⟩, List.mem_of_getElem? (i := 914) (by decide +kernel), List.mem_of_getElem? (i := 1363) (by decide +kernel), List.mem_of_getElem? (i := 1364) (by decide +kernel)⟩
def lw_privs_5 : List (MethodName × Nat) := [(⟨"PutBackModel", "leavesActs", "(I)I"⟩, 31), (⟨"PutBackModel", "plainLeaves", "(I)I"⟩, 31), (⟨"PutBackModel", "tellsActs", "(I)I"⟩, 31), (⟨"PutBackModel", "plainTells", "(I)I"⟩, 31)]
theorem lw_r5 : ∀ q ∈ lw_privs_5, lw_okq q := List.forall_mem_cons.mpr ⟨lw_p64, List.forall_mem_cons.mpr ⟨lw_p65, List.forall_mem_cons.mpr ⟨lw_p66, List.forall_mem_cons.mpr ⟨lw_p67, fun _ h => absurd h List.not_mem_nil⟩⟩⟩⟩
def lw_privs : List (MethodName × Nat) := lw_privs_1 ++ (lw_privs_2 ++ (lw_privs_3 ++ (lw_privs_4 ++ (lw_privs_5))))
def lw_tbl : List Cond := k2_sels lw_privs ++ tables_1
theorem lw_privs_ok : ∀ q ∈ lw_privs, lw_okq q := by
  show ∀ q ∈ lw_privs_1 ++ (lw_privs_2 ++ (lw_privs_3 ++ (lw_privs_4 ++ (lw_privs_5)))), lw_okq q
  exact List.forall_mem_append.mpr ⟨lw_r1, List.forall_mem_append.mpr ⟨lw_r2, List.forall_mem_append.mpr ⟨lw_r3, List.forall_mem_append.mpr ⟨lw_r4, lw_r5⟩⟩⟩⟩
def RX0 : String := "PutBack$Acts"
def TX0 : u_T := fun k => match k with
  | 0 => ("PutBack$Acts", "bodies", "[I", true)
  | 1 => ("PutBack$Acts", "ran", "I", false)
  | 2 => ("PutBack$Acts", "number", "I", false)
  | 3 => ("PutBack$Acts", "kind", "I", false)
  | _ => ("PutBack$Acts", "v", "I", false)
def tyX0 : Nat → FieldType := fun k => match k with
  | 0 => .array .int
  | 1 => .int
  | 2 => .int
  | 3 => .int
  | _ => .int
abbrev wsX00 : List Cond := u_ws RX0 TX0 5
theorem nmX0 : ∀ a, a < 5 → ∀ b, b < 5 → a ≠ b → (TX0 a).2.1 ≠ (TX0 b).2.1 := by decide +kernel
theorem tyX0_ok : ∀ k, k < 5 → parseFieldDescriptor (TX0 k).2.2.1 = some (tyX0 k) := by decide +kernel
def RX1 : String := "PutBack$Book"
def TX1 : u_T := fun k => match k with
  | 0 => ("PutBack$Book", "menders", "[I", true)
  | 1 => ("PutBack$Book", "typed", "[I", true)
  | 2 => ("PutBack$Book", "made", "[I", true)
  | _ => ("PutBack$Book", "size", "I", false)
def tyX1 : Nat → FieldType := fun k => match k with
  | 0 => .array .int
  | 1 => .array .int
  | 2 => .array .int
  | _ => .int
abbrev wsX10 : List Cond := u_ws RX1 TX1 4
theorem nmX1 : ∀ a, a < 4 → ∀ b, b < 4 → a ≠ b → (TX1 a).2.1 ≠ (TX1 b).2.1 := by decide +kernel
theorem tyX1_ok : ∀ k, k < 4 → parseFieldDescriptor (TX1 k).2.2.1 = some (tyX1 k) := by decide +kernel
def RX2 : String := "PutBack$Crew"
def TX2 : u_T := fun k => match k with
  | 0 => ("PutBack$Crew", "kinds", "[I", true)
  | 1 => ("PutBack$Crew", "vs", "[I", true)
  | 2 => ("PutBack$Crew", "rows", "[I", true)
  | _ => ("PutBack$Crew", "size", "I", false)
def tyX2 : Nat → FieldType := fun k => match k with
  | 0 => .array .int
  | 1 => .array .int
  | 2 => .array .int
  | _ => .int
abbrev wsX20 : List Cond := u_ws RX2 TX2 4
theorem nmX2 : ∀ a, a < 4 → ∀ b, b < 4 → a ≠ b → (TX2 a).2.1 ≠ (TX2 b).2.1 := by decide +kernel
theorem tyX2_ok : ∀ k, k < 4 → parseFieldDescriptor (TX2 k).2.2.1 = some (tyX2 k) := by decide +kernel
def RX3 : String := "PutBack$Maker"
def TX3 : u_T := fun k => match k with
  | 0 => ("PutBack$Maker", "state", "LPutBack$State;", true)
  | 1 => ("PutBack$Maker", "weights", "[I", true)
  | 2 => ("PutBack$Maker", "typed", "I", false)
  | 3 => ("PutBack$Maker", "last", "I", false)
  | 4 => ("PutBack$Maker", "letters", "[I", true)
  | 5 => ("PutBack$Maker", "size", "I", false)
  | 6 => ("PutBack$Maker", "sums", "[I", true)
  | _ => ("PutBack$Maker", "facts", "[I", true)
def tyX3 : Nat → FieldType := fun k => match k with
  | 0 => .object "PutBack$State"
  | 1 => .array .int
  | 2 => .int
  | 3 => .int
  | 4 => .array .int
  | 5 => .int
  | 6 => .array .int
  | _ => .array .int
abbrev wsX30 : List Cond := u_ws RX3 TX3 8
theorem nmX3 : ∀ a, a < 8 → ∀ b, b < 8 → a ≠ b → (TX3 a).2.1 ≠ (TX3 b).2.1 := by decide +kernel
theorem tyX3_ok : ∀ k, k < 8 → parseFieldDescriptor (TX3 k).2.2.1 = some (tyX3 k) := by decide +kernel
def RX4 : String := "PutBack$Phone"
def TX4 : u_T := fun k => match k with
  | 0 => ("PutBack$Phone", "limit", "I", false)
  | 1 => ("PutBack$Phone", "step", "I", false)
  | 2 => ("PutBack$Phone", "amounts", "[I", true)
  | 3 => ("PutBack$Phone", "ends", "[I", true)
  | 4 => ("PutBack$Phone", "clauses", "I", false)
  | 5 => ("PutBack$Phone", "signs", "[I", true)
  | _ => ("PutBack$Phone", "size", "I", false)
def tyX4 : Nat → FieldType := fun k => match k with
  | 0 => .int
  | 1 => .int
  | 2 => .array .int
  | 3 => .array .int
  | 4 => .int
  | 5 => .array .int
  | _ => .int
abbrev wsX40 : List Cond := u_ws RX4 TX4 7
theorem nmX4 : ∀ a, a < 7 → ∀ b, b < 7 → a ≠ b → (TX4 a).2.1 ≠ (TX4 b).2.1 := by decide +kernel
theorem tyX4_ok : ∀ k, k < 7 → parseFieldDescriptor (TX4 k).2.2.1 = some (tyX4 k) := by decide +kernel
def RX5 : String := "PutBack$Reader"
def TX5 : u_T := fun k => match k with
  | 0 => ("PutBack$Reader", "phone", "LPutBack$Phone;", true)
  | 1 => ("PutBack$Reader", "tape", "[I", false)
  | 2 => ("PutBack$Reader", "size", "I", false)
  | _ => ("PutBack$Reader", "place", "I", false)
def tyX5 : Nat → FieldType := fun k => match k with
  | 0 => .object "PutBack$Phone"
  | 1 => .array .int
  | 2 => .int
  | _ => .int
abbrev wsX50 : List Cond := u_ws RX5 TX5 4
theorem nmX5 : ∀ a, a < 4 → ∀ b, b < 4 → a ≠ b → (TX5 a).2.1 ≠ (TX5 b).2.1 := by decide +kernel
theorem tyX5_ok : ∀ k, k < 4 → parseFieldDescriptor (TX5 k).2.2.1 = some (tyX5 k) := by decide +kernel
def RX6 : String := "PutBack$State"
def TX6 : u_T := fun k => match k with
  | 0 => ("PutBack$State", "list", "LPutBack$Words;", true)
  | 1 => ("PutBack$State", "crew", "LPutBack$Crew;", true)
  | 2 => ("PutBack$State", "text", "LPutBack$Text;", true)
  | 3 => ("PutBack$State", "phone", "LPutBack$Phone;", true)
  | 4 => ("PutBack$State", "book", "LPutBack$Book;", true)
  | 5 => ("PutBack$State", "tape", "[I", true)
  | 6 => ("PutBack$State", "tapeSize", "I", false)
  | _ => ("PutBack$State", "phones", "I", false)
def tyX6 : Nat → FieldType := fun k => match k with
  | 0 => .object "PutBack$Words"
  | 1 => .object "PutBack$Crew"
  | 2 => .object "PutBack$Text"
  | 3 => .object "PutBack$Phone"
  | 4 => .object "PutBack$Book"
  | 5 => .array .int
  | 6 => .int
  | _ => .int
abbrev wsX60 : List Cond := u_ws RX6 TX6 8
theorem nmX6 : ∀ a, a < 8 → ∀ b, b < 8 → a ≠ b → (TX6 a).2.1 ≠ (TX6 b).2.1 := by decide +kernel
theorem tyX6_ok : ∀ k, k < 8 → parseFieldDescriptor (TX6 k).2.2.1 = some (tyX6 k) := by decide +kernel
def RX7 : String := "PutBack$Text"
def TX7 : u_T := fun k => match k with
  | 0 => ("PutBack$Text", "standing", "[I", true)
  | 1 => ("PutBack$Text", "fingered", "[I", true)
  | 2 => ("PutBack$Text", "left", "[I", true)
  | 3 => ("PutBack$Text", "size", "I", false)
  | 4 => ("PutBack$Text", "typed", "I", false)
  | _ => ("PutBack$Text", "leftSize", "I", false)
def tyX7 : Nat → FieldType := fun k => match k with
  | 0 => .array .int
  | 1 => .array .int
  | 2 => .array .int
  | 3 => .int
  | 4 => .int
  | _ => .int
abbrev wsX70 : List Cond := u_ws RX7 TX7 6
theorem nmX7 : ∀ a, a < 6 → ∀ b, b < 6 → a ≠ b → (TX7 a).2.1 ≠ (TX7 b).2.1 := by decide +kernel
theorem tyX7_ok : ∀ k, k < 6 → parseFieldDescriptor (TX7 k).2.2.1 = some (tyX7 k) := by decide +kernel
def RX8 : String := "PutBack$Words"
def TX8 : u_T := fun k => match k with
  | 0 => ("PutBack$Words", "words", "[I", true)
  | 1 => ("PutBack$Words", "weights", "[I", true)
  | 2 => ("PutBack$Words", "nexts", "[I", true)
  | 3 => ("PutBack$Words", "sizes", "[I", true)
  | 4 => ("PutBack$Words", "letters", "[I", true)
  | _ => ("PutBack$Words", "size", "I", false)
def tyX8 : Nat → FieldType := fun k => match k with
  | 0 => .array .int
  | 1 => .array .int
  | 2 => .array .int
  | 3 => .array .int
  | 4 => .array .int
  | _ => .int
abbrev wsX80 : List Cond := u_ws RX8 TX8 6
theorem nmX8 : ∀ a, a < 6 → ∀ b, b < 6 → a ≠ b → (TX8 a).2.1 ≠ (TX8 b).2.1 := by decide +kernel
theorem tyX8_ok : ∀ k, k < 6 → parseFieldDescriptor (TX8 k).2.2.1 = some (tyX8 k) := by decide +kernel
def RX9 : String := "PutBack"
def TX9 : u_T := fun k => match k with
  | 0 => ("PutBack", "now", "LPutBack$State;", true)
  | 1 => ("PutBack", "kept", "LPutBack$State;", true)
  | 2 => ("PutBack", "isKept", "Z", false)
  | 3 => ("PutBack", "reader", "LPutBack$Reader;", true)
  | 4 => ("PutBack", "maker", "LPutBack$Maker;", true)
  | 5 => ("PutBack", "acts", "LPutBack$Acts;", true)
  | 6 => ("PutBack", "ways", "[I", true)
  | _ => ("PutBack", "course", "[I", true)
def tyX9 : Nat → FieldType := fun k => match k with
  | 0 => .object "PutBack$State"
  | 1 => .object "PutBack$State"
  | 2 => .boolean
  | 3 => .object "PutBack$Reader"
  | 4 => .object "PutBack$Maker"
  | 5 => .object "PutBack$Acts"
  | 6 => .array .int
  | _ => .array .int
abbrev wsX90 : List Cond := u_ws RX9 TX9 8
theorem nmX9 : ∀ a, a < 8 → ∀ b, b < 8 → a ≠ b → (TX9 a).2.1 ≠ (TX9 b).2.1 := by decide +kernel
theorem tyX9_ok : ∀ k, k < 8 → parseFieldDescriptor (TX9 k).2.2.1 = some (tyX9 k) := by decide +kernel
def RX10 : String := "PutBackModel"
def TX10 : u_T := fun k => match k with
  | 0 => ("PutBackModel", "thrown", "I", false)
  | 1 => ("PutBackModel", "s", "[I", true)
  | 2 => ("PutBackModel", "image", "[I", true)
  | 3 => ("PutBackModel", "frame", "[I", true)
  | 4 => ("PutBackModel", "hasImage", "Z", false)
  | 5 => ("PutBackModel", "act", "I", false)
  | 6 => ("PutBackModel", "spot", "I", false)
  | 7 => ("PutBackModel", "end", "I", false)
  | 8 => ("PutBackModel", "isWrong", "Z", false)
  | 9 => ("PutBackModel", "open", "I", false)
  | 10 => ("PutBackModel", "by", "[I", true)
  | 11 => ("PutBackModel", "truths", "[Z", true)
  | 12 => ("PutBackModel", "letters", "[I", true)
  | 13 => ("PutBackModel", "others", "[I", true)
  | 14 => ("PutBackModel", "sums", "[I", true)
  | 15 => ("PutBackModel", "thenSums", "[I", true)
  | 16 => ("PutBackModel", "extras", "[I", true)
  | 17 => ("PutBackModel", "short0", "[I", true)
  | 18 => ("PutBackModel", "made", "[I", true)
  | 19 => ("PutBackModel", "touchesMany", "I", false)
  | 20 => ("PutBackModel", "touchesWord", "I", false)
  | 21 => ("PutBackModel", "touchesBack", "Z", false)
  | 22 => ("PutBackModel", "path", "[I", true)
  | 23 => ("PutBackModel", "ways", "I", false)
  | 24 => ("PutBackModel", "waysSo", "I", false)
  | 25 => ("PutBackModel", "chained", "[I", true)
  | 26 => ("PutBackModel", "bodies", "[I", true)
  | 27 => ("PutBackModel", "ran", "I", false)
  | 28 => ("PutBackModel", "kind", "I", false)
  | 29 => ("PutBackModel", "number", "I", false)
  | _ => ("PutBackModel", "tellsV", "I", false)
def tyX10 : Nat → FieldType := fun k => match k with
  | 0 => .int
  | 1 => .array .int
  | 2 => .array .int
  | 3 => .array .int
  | 4 => .boolean
  | 5 => .int
  | 6 => .int
  | 7 => .int
  | 8 => .boolean
  | 9 => .int
  | 10 => .array .int
  | 11 => .array .boolean
  | 12 => .array .int
  | 13 => .array .int
  | 14 => .array .int
  | 15 => .array .int
  | 16 => .array .int
  | 17 => .array .int
  | 18 => .array .int
  | 19 => .int
  | 20 => .int
  | 21 => .boolean
  | 22 => .array .int
  | 23 => .int
  | 24 => .int
  | 25 => .array .int
  | 26 => .array .int
  | 27 => .int
  | 28 => .int
  | 29 => .int
  | _ => .int
abbrev wsX100 : List Cond := u_ws RX10 TX10 31
theorem nmX10 : ∀ a, a < 31 → ∀ b, b < 31 → a ≠ b → (TX10 a).2.1 ≠ (TX10 b).2.1 := by decide +kernel
theorem tyX10_ok : ∀ k, k < 31 → parseFieldDescriptor (TX10 k).2.2.1 = some (tyX10 k) := by decide +kernel
def xq_nfl : List Nat := [5, 4, 4, 8, 7, 4, 8, 6, 6, 8, 31]
def xq_cl : List vw_C := [(RX0, TX0, 5), (RX1, TX1, 4), (RX2, TX2, 4), (RX3, TX3, 8), (RX4, TX4, 7), (RX5, TX5, 4), (RX6, TX6, 8), (RX7, TX7, 6), (RX8, TX8, 6), (RX9, TX9, 8), (RX10, TX10, 31)]
/-- objects by number, eight by eight -/
def xq_shl2 : List (List (Nat ⊕ (Nat × Nat))) := [[.inl 9, .inl 3, .inl 6, .inl 8, .inr (0, 8), .inr (0, 8), .inr (0, 8), .inr (0, 8)],
  [.inr (0, 40), .inl 2, .inr (0, 5), .inr (0, 5), .inr (0, 20), .inl 7, .inr (0, 20), .inr (0, 20)],
  [.inr (0, 6), .inl 4, .inr (0, 10), .inr (0, 10), .inr (0, 100), .inl 1, .inr (0, 8), .inr (0, 8)],
  [.inr (0, 8), .inr (0, 100), .inr (0, 8), .inr (0, 5), .inr (0, 6), .inr (0, 6), .inl 6, .inl 8],
  [.inr (0, 8), .inr (0, 8), .inr (0, 8), .inr (0, 8), .inr (0, 40), .inl 2, .inr (0, 5), .inr (0, 5)],
  [.inr (0, 20), .inl 7, .inr (0, 20), .inr (0, 20), .inr (0, 6), .inl 4, .inr (0, 10), .inr (0, 10)],
  [.inr (0, 100), .inl 1, .inr (0, 8), .inr (0, 8), .inr (0, 8), .inr (0, 100), .inl 5, .inl 4],
  [.inr (0, 10), .inr (0, 10), .inr (0, 100), .inr (0, 0), .inl 0, .inr (0, 20), .inr (0, 8), .inr (0, 10)],
  [.inl 10, .inr (0, 949), .inr (0, 949), .inr (0, 10), .inr (0, 6), .inr (1, 64), .inr (0, 6), .inr (0, 6)],
  [.inr (0, 6), .inr (0, 6), .inr (0, 8), .inr (0, 584), .inr (0, 584), .inr (0, 12), .inr (0, 8), .inr (0, 20)]]
/-- the kinds of the fields of a class: 0 int, 1 boolean, 2 a reference that stays, 3 one that moves -/
def xq_fkl : List (List Nat) := [[2, 0, 0, 0, 0], [2, 2, 2, 0], [2, 2, 2, 0], [2, 2, 0, 0, 2, 0, 2, 2], [0, 0, 2, 2, 0, 2, 0], [2, 3, 0, 0], [2, 2, 2, 2, 2, 2, 0, 0], [2, 2, 2, 0, 0, 0], [2, 2, 2, 2, 2, 0], [2, 2, 1, 2, 2, 2, 2, 2], [0, 2, 2, 2, 1, 0, 0, 0, 1, 0, 2, 2, 2, 2, 2, 2, 2, 2, 2, 0, 0, 1, 2, 0, 0, 2, 2, 0, 0, 0, 0]]
def xq_fk (ci k : Nat) : Nat := (xq_fkl.getD ci []).getD k 9
/-- which object a field holds -/
def xq_rfl : List (List (List Nat)) := [[[2, 30, 0, 54, 1, 60, 62, 63], [2, 26, 0, 0, 27, 0, 28, 29], [3, 9, 13, 17, 21, 25, 0, 0], [4, 5, 6, 7, 8, 0], [], [], [], []],
  [[], [10, 11, 12, 0], [], [], [], [14, 15, 16, 0, 0, 0], [], []],
  [[], [0, 0, 18, 19, 0, 20, 0], [], [], [], [22, 23, 24, 0], [], []],
  [[], [], [], [], [], [], [31, 37, 41, 45, 49, 53, 0, 0], [32, 33, 34, 35, 36, 0]],
  [[], [], [], [], [], [38, 39, 40, 0], [], []],
  [[], [42, 43, 44, 0, 0, 0], [], [], [], [0, 0, 46, 47, 0, 48, 0], [], []],
  [[], [50, 51, 52, 0], [], [], [], [], [55, 59, 0, 0], [0, 0, 56, 57, 0, 58, 0]],
  [[], [], [], [], [61, 0, 0, 0, 0], [], [], []],
  [[0, 65, 66, 67, 0, 0, 0, 0, 0, 0, 68, 69, 70, 71, 72, 73, 74, 75, 76, 0, 0, 0, 77, 0, 0, 78, 79, 0, 0, 0, 0], [], [], [], [], [], [], []],
  [[], [], [], [], [], [], [], []]]
def xq_rf (o k : Nat) : Nat := ((xq_rfl.getD (o / 8) []).getD (o % 8) []).getD k 0
/-- cells of one object -/
def xq_szl : List Nat := [8, 8, 8, 6, 8, 8, 8, 8, 40, 4, 5, 5, 20, 6, 20, 20, 6, 7, 10, 10, 100, 4, 8, 8, 8, 100, 8, 5, 6, 6, 8, 6, 8, 8, 8, 8, 40, 4, 5, 5, 20, 6, 20, 20, 6, 7, 10, 10, 100, 4, 8, 8, 8, 100, 4, 7, 10, 10, 100, 0, 5, 20, 8, 10, 31, 949, 949, 10, 6, 64, 6, 6, 6, 6, 8, 584, 584, 12, 8, 20]
def xq_strs : List (List Int) := [[108, 105, 109, 105, 116], [115, 116, 101, 112], [100, 101, 97, 114], [102, 114, 101, 101], [108, 105, 109, 105, 116, 32], [115, 116, 101, 112, 32], [100, 101, 97, 114, 32], [102, 114, 101, 101, 32], [116, 119, 100, 107, 105, 115], [60, 61, 62]]
